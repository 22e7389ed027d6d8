import java.util.Random;

/** Runs of 512 calls by fixed seeds: the class answers as its twin does, and what is refused or asked changes nothing. */
public final class RandomRunsTest {
    private static final int RUNS = 1500;
    private static final int CALLS = 512;
    private static final int KINDS = 36;
    private static final Due due = new Due();

    public static void main(String[] args) {
        for (int run = 0; run < RUNS; run++) {
            oneRun(run);
        }
        for (int run = 0; run < 40000; run++) {
            oneText(new Random(-run - 1));
        }
        due.finish();
    }

    private static void oneRun(int run) {
        Random dice = new Random(run);
        ThreeHeirs x = new ThreeHeirs();
        Twin y = new Twin();
        String text = dice.nextInt(12) == 0 ? "" : soundText(dice);
        for (int i = 0; i < text.length(); i++) {
            due.is("feed", x.feed(text.charAt(i)), y.feed(text.charAt(i)));
        }
        due.is("run " + run + ": county of " + text, x.county(), y.county());
        int left = CALLS - text.length() - 1;
        for (int i = 0; i < left; i++) {
            oneCall(run, dice, x, y);
        }
    }

    private static int number(Random dice, int usual) {
        switch (dice.nextInt(24)) {
            case 0:
                return -1;
            case 1:
                return usual;
            case 2:
                return usual + 1;
            case 3:
                return dice.nextInt();
            default:
                return usual > 0 ? dice.nextInt(usual) : 0;
        }
    }

    private static void oneCall(int run, Random d, ThreeHeirs x, Twin y) {
        int kind = d.nextInt(KINDS);
        // The state is read before and behind only here and there: that is dear, and counts as calls.
        String before = d.nextInt(64) == 0 ? Due.stateOf(x) : null;
        int[] a = new int[5];
        long got = 0;
        long want = 0;
        int m = 0;
        switch (kind) {
            case 0: a[0] = number(d, 256); got = x.feed(a[0]); want = y.feed(a[0]); break;
            case 1:
                if (d.nextInt(20) == 0) {
                    got = x.county();
                    want = y.county();
                }
                break;
            case 2: got = x.fault(); want = y.fault(); break;
            case 3: a[0] = number(d, 16); got = x.told(a[0]); want = y.told(a[0]); break;
            case 4: a[0] = number(d, 3); a[1] = number(d, 4); got = x.heir(a[0], a[1]); want = y.heir(a[0], a[1]); break;
            case 5: a[0] = number(d, 8); a[1] = number(d, 2); got = x.thing(a[0], a[1]); want = y.thing(a[0], a[1]); break;
            case 6: a[0] = number(d, 10); a[1] = number(d, 3); got = x.want(a[0], a[1]); want = y.want(a[0], a[1]); break;
            case 7: a[0] = number(d, 3); a[1] = number(d, 8); got = x.known(a[0], a[1]); want = y.known(a[0], a[1]); break;
            case 8: a[0] = number(d, 20); a[1] = number(d, 4); got = x.logged(a[0], a[1]); want = y.logged(a[0], a[1]); break;
            case 9: m = d.nextInt(6) == 0 ? 31 : 8; a[0] = number(d, m); got = x.hour(a[0]); want = y.hour(a[0]); break;
            case 10: a[0] = number(d, 6); a[1] = number(d, 10); got = x.put(a[0], a[1]); want = y.put(a[0], a[1]); break;
            case 11: a[0] = number(d, 3); a[1] = number(d, 8); got = x.note(a[0], a[1]); want = y.note(a[0], a[1]); break;
            case 12: a[0] = number(d, 25); got = x.eclipse(a[0]); want = y.eclipse(a[0]); break;
            case 13: a[0] = number(d, 12); got = x.drift(a[0]); want = y.drift(a[0]); break;
            case 14: m = d.nextInt(4) == 0 ? 31 : 6; a[0] = number(d, m); got = x.undo(a[0]); want = y.undo(a[0]); break;
            case 15: a[0] = number(d, 241); got = x.whose(a[0]); want = y.whose(a[0]); break;
            case 16: a[0] = number(d, 3); a[1] = number(d, 241); got = x.gets(a[0], a[1]); want = y.gets(a[0], a[1]); break;
            case 17: a[0] = number(d, 8); a[1] = number(d, 241); got = x.willBe(a[0], a[1]); want = y.willBe(a[0], a[1]); break;
            case 18: a[0] = number(d, 3); got = x.next(a[0]); want = y.next(a[0]); break;
            case 19:
                a = new int[] {number(d, 3), number(d, 6), number(d, 10), number(d, 49), number(d, 2)};
                got = x.keepSo(a[0], a[1], a[2], a[3], a[4]);
                want = y.keepSo(a[0], a[1], a[2], a[3], a[4]);
                break;
            case 20: a[0] = number(d, 9) - 1; got = x.agreed(a[0]); want = y.agreed(a[0]); break;
            case 21: a[0] = number(d, 3); a[1] = number(d, 3); got = x.against(a[0], a[1]); want = y.against(a[0], a[1]); break;
            case 22:
                a = new int[] {number(d, 8), number(d, 10), number(d, 49)};
                got = x.movers(a[0], a[1], a[2]);
                want = y.movers(a[0], a[1], a[2]);
                break;
            case 23: a[0] = number(d, 2); got = x.poorest(a[0]); want = y.poorest(a[0]); break;
            case 24: a[0] = number(d, 2); got = x.light(a[0]); want = y.light(a[0]); break;
            case 25: a[0] = number(d, 24); a[1] = number(d, 12); got = x.child(a[0], a[1]); want = y.child(a[0], a[1]); break;
            case 26: a[0] = number(d, 61); a[1] = number(d, 101); got = x.clear(a[0], a[1]); want = y.clear(a[0], a[1]); break;
            case 27:
                a = new int[] {number(d, 6), number(d, 10), d.nextInt(3)};
                got = x.find(a[0], a[1], a[2] == 0);
                want = y.find(a[0], a[1], a[2] == 0);
                break;
            case 28: a[0] = number(d, 2); got = x.fits(a[0]); want = y.fits(a[0]); break;
            case 29: got = x.lookAt(); want = y.lookAt(); break;
            case 30:
                a[0] = number(d, 6);
                a[1] = d.nextInt(3) == 0 ? number(d, 10) : Math.max(0, x.thing(a[0], 1));
                got = x.write(a[0], a[1]);
                want = y.write(a[0], a[1]);
                break;
            case 31: got = x.judge(); want = y.judge(); break;
            case 32:
                if (d.nextInt(6) == 0) {
                    got = x.tear();
                    want = y.tear();
                }
                break;
            case 33: a[0] = number(d, 2147483646); got = x.seed(a[0]); want = y.seed(a[0]); break;
            case 34:
                if (d.nextInt(4) == 0) {
                    a[0] = number(d, 2);
                    got = x.keep(a[0]);
                    want = y.keep(a[0]);
                }
                break;
            default:
                if (d.nextInt(4) == 0) {
                    a[0] = number(d, 2);
                    got = x.goBack(a[0]);
                    want = y.goBack(a[0]);
                }
                break;
        }
        due.is("run " + run + ": kind " + kind + " of " + java.util.Arrays.toString(a), got, want);
        boolean isAsking = kind > 1 && kind < 9 || kind > 14 && kind < 27 || kind == 28 || kind == 29 || kind == 31;
        boolean isRefused = Due.isRefusal(got);
        if (before != null && (isAsking || isRefused)) {
            due.isTrue("run " + run + ": nothing changes by kind " + kind, before.equals(Due.stateOf(x)));
        }
    }

    private static String blank(Random dice) {
        return dice.nextInt(30) == 0 ? " " : "";
    }

    private static String soundText(Random dice) {
        StringBuilder s = new StringBuilder("c" + (1 + dice.nextInt(11)) + " " + (13 + dice.nextInt(11)) + ";");
        if (dice.nextInt(3) > 0) {
            s.append('s').append(dice.nextInt(10));
            for (int i = dice.nextInt(12); i > 0; i--) {
                s.append(',').append(blank(dice)).append(dice.nextInt(10));
            }
            s.append(';');
        }
        int things = dice.nextInt(10) == 0 ? 0 : 1 + dice.nextInt(8);
        for (int i = 0; i < things; i++) {
            s.append('t').append(dice.nextInt(4)).append(' ').append(dice.nextInt(10)).append(';');
        }
        for (int i = dice.nextInt(7); i > 0; i--) {
            s.append('l').append(blank(dice)).append(1 + dice.nextInt(9)).append(';');
        }
        int wanted = 1 + dice.nextInt(Math.max(1, things));
        for (int i = things == 0 ? 0 : dice.nextInt(11); i > 0; i--) {
            s.append('w').append(dice.nextInt(3)).append(' ').append(dice.nextInt(wanted)).append(' ');
            s.append(dice.nextInt(dice.nextBoolean() ? 3 : 10)).append(';');
        }
        return s.toString();
    }

    /** A sound text with some letters taken out, put in, or changed: the faults are the same as the twin's. */
    private static void oneText(Random dice) {
        StringBuilder s = new StringBuilder(dice.nextInt(50) == 0 ? "" : soundText(dice));
        String letters = "cstlw;;,, 0123456789x" + (char) 0 + (char) 200;
        for (int i = dice.nextInt(4); i > 0; i--) {
            char letter = letters.charAt(dice.nextInt(letters.length()));
            int place = dice.nextInt(s.length() + 1);
            int way = dice.nextInt(3);
            if (way == 0) {
                s.insert(place, letter);
            } else if (way == 1 && place < s.length()) {
                s.setCharAt(place, letter);
            } else if (place < s.length()) {
                s.deleteCharAt(place);
            }
        }
        if (dice.nextInt(10) == 0) {
            s.setLength(dice.nextInt(s.length() + 1));
        }
        ThreeHeirs x = new ThreeHeirs();
        Twin y = new Twin();
        for (int i = 0; i < s.length(); i++) {
            x.feed(s.charAt(i));
            y.feed(s.charAt(i));
        }
        due.is("county of " + s, x.county(), y.county());
        due.is("fault of " + s, x.fault(), y.fault());
        for (int what = 0; what < 16; what++) {
            due.is("told(" + what + ") of " + s, x.told(what), y.told(what));
        }
    }
}
