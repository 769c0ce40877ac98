/** Promises 5, 7, 8, 9, 10 and 11: begin, OUT, save, restore, undo. */
public final class PlaysTest {
    private static final String STORY = "room r \"R\" {} thing a \"A\" { in r; word aa; container; } thing b \"B\" { in r; word bb; } var n = 3; array t[2]; "
            + "each { n = n + 1; t[1] = random 1000; } verb end end alone; on end { win; } verb bad bad alone; on bad { say 1 / 0; }";

    public static void main(String[] args) {
        beginning();
        out();
        saving();
        undoing();
        wrongCalls();
        Bench.end();
    }

    private static void beginning() {
        Bench bench = Bench.playing("thing c \"C\" { in player; } thing a \"A\" { in r; } thing b \"B\" {} room r \"R\" {} room s \"S\" {} thing d \"D\" { in a; } var n = -3; array t[1];");
        bench.house.begin(-9);
        Bench.same("seed", -9, bench.house.told(11));
        Bench.same("the first room", 5, bench.house.holder(1));
        Bench.same("in order", 3, bench.house.first(5, false));
        Bench.same("then the player", 1, bench.house.first(3, true));
        Bench.same("in nothing", 0, bench.house.holder(4));
        Bench.same("what the player has", 2, bench.house.first(1, false));
        Bench.same("a var", -3, bench.house.value(0));
        Bench.same("a cell", 0, bench.house.cell(0, 0));
        bench = Bench.playing(STORY);
        bench.playAll("take aa", "open aa", "z");
        bench.house.begin(8);
        Bench.same("all anew", "2 2 3 0 0 0 0 8 false",
                bench.house.holder(1) + " " + bench.house.holder(3) + " " + bench.house.value(0) + " " + bench.house.cell(0, 1) + " "
                + bench.house.told(7) + " " + bench.house.told(9) + " " + bench.house.told(10) + " " + bench.house.told(11) + " " + bench.house.has(3, 4));
        Bench.same("nothing to repeat", "0 There is nothing to repeat.\n", bench.play("g"));
        bench.play("end");
        bench.house.begin(8);
        Bench.same("not ended", 0, bench.house.told(8));
        Bench.same("OUT begins anew", "R\nThere is B here.\nThere is A here.\n", bench.out());
        bench = Bench.playing("room r \"R\" {} thing a \"A\" {} thing b \"B\" { in r; } on wait { move a to r; move b to a; }");
        bench.play("z");
        bench.house.begin(8);
        Bench.same("in nothing again", "0 0 2 4 1", bench.house.holder(3) + " " + bench.house.first(3, false) + " " + bench.house.holder(4)
                + " " + bench.house.first(2, false) + " " + bench.house.first(4, true));
    }

    private static void out() {
        Bench bench = Bench.playing("room r \"R\" {} on wait { let i = 0; while i < 300 { say \"0123456789\"; i = i + 1; } say \"more\"; } verb few few alone; on few { let i = 0; while i < 2995 { say 1; i = i + 1; } }");
        Bench.same("what begin told", 2, bench.house.size());
        Bench.same("a byte", (int) 'R', bench.house.out(0));
        Bench.same("a new line", 10, bench.house.out(1));
        for (int i : new int[] {-1, 2, 3000, Integer.MIN_VALUE, Integer.MAX_VALUE}) {
            Bench.refuses("out " + i, IndexOutOfBoundsException.class, () -> bench.house.out(i));
        }
        bench.play("z");
        Bench.same("3000 at most", 3000, bench.house.size());
        Bench.same("the last", (int) '9', bench.house.out(2999));
        Bench.same("cut within a text", "Nothi", bench.play("few").substring(2997));
        bench.house.feed('z', 1);
        bench.build(STORY.replace("room", "roof"));
        Bench.same("build tells nothing", 3000, bench.house.size());
        bench.house.save(0);
        Bench.same("nor does save", 3000, bench.house.size());
        bench.house.undo();
        Bench.same("undo begins anew", 0, bench.house.size());
        bench.play("z");
        bench.house.restore(0);
        Bench.same("so does restore", 0, bench.house.size());
        bench.house.undo();
        bench.play("z");
        bench.build(STORY);
        Bench.same("what was told is kept by build", 3000, bench.house.size());
    }

    private static String state(Bench bench) {
        StoryHouse house = bench.house;
        return house.holder(3) + " " + house.holder(4) + " " + house.first(2, false) + " " + house.has(3, 4) + " " + house.value(0)
                + " " + house.cell(0, 1) + " " + house.told(7) + " " + house.told(8) + " " + house.told(9) + " " + house.told(11);
    }

    private static void saving() {
        Bench bench = Bench.playing(STORY);
        bench.playAll("open aa", "take bb");
        String saved = state(bench);
        bench.house.save(3);
        bench.playAll("take aa", "close aa", "end");
        String ended = state(bench);
        bench.house.save(0);
        bench.house.restore(3);
        Bench.same("restored", saved, state(bench));
        Bench.same("nothing to undo", 0, bench.house.told(10));
        Bench.same("undo", false, bench.house.undo());
        Bench.same("again as it was", "1 You have that.\n", bench.play("g"));
        bench.house.restore(0);
        Bench.same("an ended one", ended, state(bench));
        Bench.same("is over", "3 The story is over.\n", bench.play("z"));
        bench.house.begin(5);
        bench.house.restore(3);
        Bench.same("saved ones stay", saved, state(bench));
        Bench.same("it", "1 You have that.\n", bench.play("take it"));
        bench.house.save(3);
        bench.play("drop bb");
        bench.house.restore(3);
        Bench.same("saved over", 3, bench.house.told(7));
        Bench.refuses("nothing saved there", IllegalStateException.class, () -> bench.house.restore(1));
        Bench.same("sound", true, bench.house.sound());
    }

    private static void undoing() {
        Bench bench = Bench.playing(STORY);
        Bench.same("nothing yet", false, bench.house.undo());
        String[] lines = {"z", "take aa", "x bb", "open aa", "drop aa", "take bb", "end"};
        String[] states = new String[8];
        for (int i = 0; i < 7; i++) {
            states[i] = state(bench);
            bench.play(lines[i]);
            Bench.same("can be undone", Math.min(5, i + 1), bench.house.told(10));
        }
        for (int i = 6; i >= 2; i--) {
            Bench.same("undo " + i, true, bench.house.undo());
            Bench.same("undone " + i, states[i], state(bench));
            Bench.same("left", i - 2, bench.house.told(10));
        }
        Bench.same("no more than five", false, bench.house.undo());
        Bench.same("again goes back", "1 You have that.\n", bench.play("g"));
        bench.playAll("bad", "dance");
        Bench.same("only commands that did not break", 1, bench.house.told(10));
        Bench.same("it", "1 Dropped.\n", bench.play("drop it"));
        bench.house.undo();
        Bench.same("it goes back", 3, bench.house.told(9));
        bench.play("take bb");
        bench.house.undo();
        Bench.same("it, too", 3, bench.house.told(9));
        bench.house.begin(1);
        Bench.same("nothing behind begin", false, bench.house.undo());
    }

    private static void wrongCalls() {
        Bench bench = new Bench();
        bench.build(STORY);
        for (int place : new int[] {-1, 4, Integer.MIN_VALUE, Integer.MAX_VALUE}) {
            Bench.refuses("save " + place, IndexOutOfBoundsException.class, () -> bench.house.save(place));
            Bench.refuses("restore " + place, IndexOutOfBoundsException.class, () -> bench.house.restore(place));
        }
        Bench.refuses("save unplayed", IllegalStateException.class, () -> bench.house.save(0));
        Bench.refuses("restore unsaved", IllegalStateException.class, () -> bench.house.restore(0));
        Bench.refuses("enter unplayed", IllegalStateException.class, bench.house::enter);
        Bench.refuses("undo unplayed", IllegalStateException.class, bench.house::undo);
        bench.house.feed('z', 1);
        bench.house.begin(1);
        Bench.same("the tape stays for the line", 1, bench.house.enter());
    }
}
