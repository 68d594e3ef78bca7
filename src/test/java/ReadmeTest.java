import java.nio.charset.StandardCharsets;
import java.nio.file.Files;
import java.nio.file.Path;
import java.util.ArrayList;
import java.util.List;
import java.util.regex.Matcher;
import java.util.regex.Pattern;

/** README.md's Java: each piece of it stands word for word in this file, and answers as its comments say. */
public final class ReadmeTest {
    public static void main(String[] args) throws Exception {
        calls();
        String own = bare(read("src/test/java/ReadmeTest.java"));
        List<String> pieces = pieces(read("README.md"));
        Check.is("pieces of Java: " + pieces.size(), pieces.size() == 7);
        for (String piece : pieces) Check.is("it is tested: " + piece, own.contains(bare(piece)));
        Check.finish("ReadmeTest");
    }

    private static void calls() {
        DoorFleet x = new DoorFleet();
        int house = x.house(5);               // 0: the first HOUSE, its SIZE is 5
        int door = x.door(5, 0, house, 42);   // 0: the first DOOR; WIDE 5, WOOD 0, KNOCKS 42
        int launched = x.launch(door);        // 0: it is in the HARBOUR, CELL 0
        int cell = x.sail(door, 2);           // 1: the CELL to the right
        int caught = x.fish(door);            // 10: all the FISH of that CELL
        int undone = x.undo();                // 2: a fishing was undone
        due("make one, call it", house, 0, door, 0, launched, 0, cell, 1, caught, 10, undone, 2);
        refused(x, door);
        texts(x, door);
        rows(x);
    }

    private static void refused(DoorFleet x, int door) {
        int answer = x.sail(door, 1);         // -3: there is no CELL above
        int by = x.status();                  // -3
        int times = x.count(10);              // 1: one call was REFUSED by -3
        due("a refused call", answer, -3, by, -3, times, 1);
        int nothing = x.of(7, 0);             // -1, NONE: there is no DOOR 7
        int still = x.status();               // -3: that of sail(), of() is not REFUSED
        int was = x.force(DoorFleet.NONE);    // -1, NONE: no LAW was in FORCE
        int granted = x.status();             // 0
        due("NONE", nothing, -1, still, -3, was, -1, granted, 0);
    }

    static void tell(DoorFleet x, String text) {
        x.end(0);
        for (int from = 0; from < text.length(); from += 20) {
            int[] five = new int[5];
            for (int i = 0; i < 20; i++) {
                int sign = from + i < text.length() ? text.charAt(from + i) : ' ';
                five[i / 4] = five[i / 4] << 8 | sign & 255;
            }
            x.feed(five[0], five[1], five[2], five[3], five[4]);
        }
        x.end(text.length());
    }

    private static void texts(DoorFleet x, int door) {
        tell(x, "catches wide * 2 if mood < 5; bars if day > 900");
        int law = x.law();                    // 0
        int inForce = x.force(law);           // -1: none was
        int asked = x.asks(door, 0, 0);       // 10: 2 times WIDE
        tell(x, "fits if wide <");
        int unread = x.law();                 // -6
        int fault = x.fault();                // 14: the end, where a SUM was due
        due("laws", law, 0, inForce, -1, asked, 10, unread, -6, fault, 14);
        tell(x, "sail 0 by 4; hang 0 in 0; tide times 2 if open = 0");
        int ran = x.orders();                 // 4
        tell(x, "tide; launch 1");
        int cannot = x.orders();              // -3: there is no DOOR 1
        int clause = x.stopped();             // 1: the second CLAUSE
        int day = x.count(14);                // 2: the tide ahead of it is undone, too
        due("orders", ran, 4, cannot, -3, clause, 1, day, 2);
    }

    private static void rows(DoorFleet x) {
        tell(x, "" + (char) 50 + (char) 2 + (char) 100 + (char) 0 + (char) 7);
        int told = x.row();                   // 1: CELL 0 has 50 FISH and DRIFT 2 then
        int foam = x.foam();                  // 2: 100 FISH can't be; within the third the TAPE ends
        due("rows", told, 1, foam, 2, x.at(0, 0), 50, x.at(0, 1), 2);
        tell(x, "fits" + " ".repeat(396));
        due("a text of 400 bytes", x.count(7), 400, x.law(), 1, x.count(7), 0);
        tell(x, "fits");
        tell(x, "slams 2");
        due("the TAPE is empty ahead of a text", x.count(7), 7, x.law(), 2);
    }

    /** Answers by twos: got, due. */
    private static void due(String what, int... answers) {
        for (int i = 0; i + 1 < answers.length; i += 2) {
            Check.due("README, " + what + ", the answer " + i / 2, answers[i], answers[i + 1]);
        }
    }

    private static List<String> pieces(String page) {
        List<String> pieces = new ArrayList<>();
        Matcher m = Pattern.compile("(?s)```java\n(.*?)```").matcher(page);
        while (m.find()) pieces.add(m.group(1));
        return pieces;
    }

    /** Without what stands ahead of each line's first sign. */
    private static String bare(String text) {
        return text.replaceAll("(?m)^ +", "");
    }

    private static String read(String file) throws Exception {
        return Files.readString(Path.of(file), StandardCharsets.UTF_8);
    }
}
