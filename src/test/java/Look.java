import java.util.ArrayList;
import java.util.List;

/** All that an object can be asked, then all that it can undo, hold on its TAPE and go back to: the object is used up. */
final class Look {
    private final DoorFleet x;
    private final List<String> told = new ArrayList<>();

    private Look(DoorFleet x) {
        this.x = x;
    }

    /** Behind law(), orders(), row() FAULT and stopped() are asked by the test itself. */
    static List<String> at(DoorFleet x, boolean reading) {
        Look look = new Look(x);
        if (!reading) {
            look.note("fault", x.fault());
            look.note("stopped", x.stopped());
        }
        look.note("foam", x.foam());
        for (int k = 0; k < 25; k++) for (int w = 0; w < 3; w++) look.note("drawn " + k + " " + w, x.drawn(k, w));
        look.questions();
        look.laws();
        look.undone();
        look.note("count 7", x.count(7));
        look.note("row", x.row());
        look.note("foam", x.foam());
        look.sea();
        for (int k = 0; k < 2; k++) {
            look.note("back " + k, x.back(k));
            look.note("count 6", x.count(6));
            look.questions();
            look.laws();
        }
        return look.told;
    }

    private void note(String what, long answer) {
        told.add(what + " = " + answer);
    }

    private void questions() {
        int[] counts = {0, 1, 2, 3, 4, 5, 6, 13, 14, 15};
        for (int what : counts) note("count " + what, x.count(what));
        doors();
        sea();
        for (int h = 0; h < 8; h++) for (int w = 0; w < 10; w++) note("frame " + h + " " + w, x.frame(h, w));
        for (int w = 0; w < 10; w++) note("hanging " + w, x.hanging(w));
        for (int w = 0; w < 9; w++) note("battle " + w, x.battle(w));
        for (int k = 0; k < 7; k++) note("heard " + k, x.heard(0, k));
        for (int f = 0; f < 60; f += 9) note("fleet " + f, x.fleet(f, 1));
        note("right", x.right());
        note("knock", x.knock(0));
        note("guards", x.guards(1));
        for (int c = 0; c < 25; c += 6) note("wreck " + c, x.wreck(c, 2));
    }

    private void doors() {
        for (int d = 0; d < 8; d++) {
            for (int w = 0; w < 9; w++) note("of " + d + " " + w, x.of(d, w));
            for (int c = 0; c < 25; c += 12) {
                for (int w = 0; w < 2; w++) note("asks " + d + " " + c + " " + w, x.asks(d, c, w));
            }
            note("share " + d, x.share(1000, d));
            note("afloat " + d, x.afloat(d, 2));
        }
    }

    private void sea() {
        for (int c = 0; c < 25; c++) for (int w = 0; w < 3; w++) note("at " + c + " " + w, x.at(c, w));
    }

    private void laws() {
        int force = x.count(13);
        for (int l = 0; l < x.count(5); l++) {
            x.force(l);
            doors();
            for (int h = 0; h < 8; h++) for (int w = 2; w < 10; w++) note("law " + l + " frame " + h, x.frame(h, w));
        }
        x.force(force);
    }

    private void undone() {
        for (int n = 0; n < 20; n++) {
            int kind = x.undo();
            note("undo " + n, kind);
            if (kind < 0) return;
            note("day", x.count(14));
            for (int d = 0; d < 8; d++) for (int w = 4; w < 8; w++) note("of " + d + " " + w, x.of(d, w));
            sea();
        }
    }
}
