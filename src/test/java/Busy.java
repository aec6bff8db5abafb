/**
 * An object with something of everything in it, and a way to ask for all that it holds:
 * two objects made alike must answer alike to the end, unless a call between changed one of them.
 */
final class Busy {
    static final String TEXT = "plain 7;soft 2;sham 3;dry;plain 9;think 3;plan 0 1 5 6 4 2 2 6;";

    private Busy() {
    }

    /**
     * Five PEOPLE, of whom the last WEPT in MINUTE 0 and is GONE; SORROW 4, 2, 0, 0; MINUTE 3; ROOM 1; THINK 3;
     * 8 ACTS; two SEEN; IMAGE 0; SHEETS 0, 1, 2 of their lanes with 3, 2, 0 CELLS; torn() 2; fault() 2; 6 bytes.
     */
    static TearsQueue made() {
        TearsQueue x = Checks.told(TEXT);
        x.room(1);
        x.thinks(4);
        x.tram();
        x.minutes(2);
        x.keep(0);
        x.thinks(1);
        x.minutes(1);
        x.see(4, true);
        x.see(3, false);
        x.sheet(0, 0, 3);
        x.lay(0, 0, 5);
        x.lay(0, 1, 1);
        x.sheet(1, 1, 2);
        x.lay(1, 0, 6);
        x.sheet(2, 2, 0);
        x.read(0, 0, 3, 1);
        x.feed('x');
        x.text();
        Checks.feedAll(x, "dry 3;");
        return x;
    }

    /** As made(), with as many SEEN as there may be. */
    static TearsQueue withAllSeen() {
        TearsQueue x = made();
        for (int i = 0; i < 4; i++) {
            x.see(i, i % 2 == 0);
        }
        return x;
    }

    static TearsQueue withFullTape() {
        TearsQueue x = Checks.told("soft 2;");
        for (int i = 0; i < 160; i++) {
            x.feed(' ');
        }
        return x;
    }

    /** What can be asked without changing anything. */
    static String shown(TearsQueue x) {
        StringBuilder all = new StringBuilder();
        for (int what = 0; what < 7; what++) {
            all.append(x.rule(what)).append(' ');
        }
        for (int p = 0; p < x.rule(0); p++) {
            for (int what = 0; what < 5; what++) {
                all.append(x.one(p, what)).append(' ');
            }
            all.append(x.sorrows(p)).append(' ');
        }
        for (int i = 0; i < 8; i++) {
            all.append(x.act(i)).append(' ');
        }
        for (int i = 0; i < 5; i++) {
            all.append(x.queue(i)).append(' ');
        }
        for (int what = 0; what < 6; what++) {
            all.append(x.count(what)).append(' ');
        }
        all.append(x.fault()).append(' ').append(x.torn());
        return all.toString();
    }

    /** All that it holds, the hidden too; the object is used up by it. */
    static String everything(TearsQueue x) {
        StringBuilder all = new StringBuilder(shown(x));
        for (int k = 0; k < 4; k++) {
            for (int lane = 0; lane < 3; lane++) {
                all.append(x.read(k, lane, 0, 1)).append(x.torn()).append(' ');
            }
            for (int f = 1; f < 4; f++) {
                all.append(x.read(k, k % 3, f, 1)).append(x.torn()).append(' ');
            }
        }
        for (int k = 0; k < 2; k++) {
            all.append(x.back(k)).append(' ').append(shown(x));
        }
        all.append(x.text()).append(' ').append(shown(x));
        return all.toString();
    }
}
