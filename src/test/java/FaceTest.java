import java.lang.reflect.Constructor;
import java.lang.reflect.Field;
import java.lang.reflect.Method;
import java.lang.reflect.Modifier;
import java.util.ArrayList;
import java.util.List;
import java.util.Set;
import java.util.TreeSet;
import java.util.regex.Matcher;
import java.util.regex.Pattern;

/** The document's public face: its constant, its constructor and every method, none more. */
public final class FaceTest {
    private static final String[] FACE = {
        "int house(int)", "int door(int,int,int,int)", "int of(int,int)", "int frame(int,int)",
        "int put(int,int,int)", "int at(int,int)", "int asks(int,int,int)", "int foe(int)", "int peace()",
        "int terms(int,int)", "int feed(int,int,int,int,int)", "int end(int)", "int row()", "int foam()",
        "int law()", "int orders()", "int fault()", "int stopped()", "int force(int)", "int launch(int)",
        "int sail(int,int)", "int fish(int)", "int hang(int,int)", "int tide()", "int undo()",
        "int fleet(int,int)", "int hanging(int)", "int right()", "int heard(int,int)", "int knock(int)",
        "int wreck(int,int)", "int search(int,int)", "long afloat(int,int)", "int guards(int)",
        "int battle(int)", "int share(int,int)", "int summers(int,int)", "int drawn(int,int)",
        "int image(int)", "int back(int)", "int count(int)", "int status()"};

    public static void main(String[] args) {
        Set<String> want = new TreeSet<>(List.of(FACE));
        Set<String> got = new TreeSet<>();
        List<String> hidden = new ArrayList<>();
        for (Method m : DoorFleet.class.getDeclaredMethods()) {
            if (Modifier.isPrivate(m.getModifiers())) {
                hidden.add(m.getName());
                continue;
            }
            Check.is(m + " is public and no static one",
                Modifier.isPublic(m.getModifiers()) && !Modifier.isStatic(m.getModifiers()));
            got.add(told(m));
        }
        Check.is("methods " + got, got.equals(want));
        for (String name : hidden) {
            for (String face : FACE) Check.is(name + " hides none", !face.contains(" " + name + "("));
        }
        for (Field f : DoorFleet.class.getDeclaredFields()) {
            Check.is(f + " is private", f.getName().equals("NONE") || Modifier.isPrivate(f.getModifiers()));
            if (Modifier.isStatic(f.getModifiers())) Check.is(f + " is final", Modifier.isFinal(f.getModifiers()));
        }
        Constructor<?>[] made = DoorFleet.class.getDeclaredConstructors();
        Check.is("one constructor", made.length == 1 && Modifier.isPublic(made[0].getModifiers())
            && made[0].getParameterCount() == 0);
        int kind = DoorFleet.class.getModifiers();
        Check.is("public and final", Modifier.isPublic(kind) && Modifier.isFinal(kind));
        Doc.says("Terms IV", "The constants: NONE = -1: There is none.");
        Check.due("NONE", DoorFleet.NONE, -1);
        for (Class<?> c : DoorFleet.class.getDeclaredClasses()) {
            Check.is(c + " is static and not public",
                Modifier.isStatic(c.getModifiers()) && !Modifier.isPublic(c.getModifiers()));
            for (Method m : c.getDeclaredMethods()) {
                for (String face : FACE) Check.is(m + " hides none", !face.contains(" " + m.getName() + "("));
            }
        }
        faceOfTheDocument(want);
        Check.finish("FaceTest");
    }

    /** The document's own lines, without the names of what a method is given. */
    private static void faceOfTheDocument(Set<String> want) {
        String face = Doc.part("The public face");
        if (face.isEmpty()) return;
        Set<String> told = new TreeSet<>();
        Matcher m = Pattern.compile("public (int|long) (\\w+)\\(([^)]*)\\);").matcher(face);
        while (m.find()) {
            String given = m.group(3).replaceAll("int \\w+", "int").replace(" ", "");
            told.add(m.group(1) + " " + m.group(2) + "(" + given + ")");
        }
        Check.is("the document's face " + told, told.equals(want));
        Check.is("its constant", face.contains("public static final int NONE = -1;"));
        for (int p = 2; p <= 43; p++) {
            String head = Doc.part("Promise " + p).replaceAll(":.*", "").trim();
            Check.is("promise " + p + ": " + head, face.contains("public " + head + ";"));
        }
    }

    private static String told(Method m) {
        StringBuilder text = new StringBuilder();
        text.append(m.getReturnType()).append(' ').append(m.getName()).append('(');
        for (int i = 0; i < m.getParameterCount(); i++) {
            if (i > 0) text.append(',');
            text.append(m.getParameterTypes()[i]);
        }
        return text.append(')').toString();
    }
}
