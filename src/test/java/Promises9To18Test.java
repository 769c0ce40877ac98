/** Promises 9 to 18: save, restore, undo, holder, first, has, value, cell, told, sound; each sentence that names a boundary. */
public final class Promises9To18Test {
    private static final String STORY = "room r \"R\" { exit up s; } room s \"S\" { dark; exit down r; } thing a \"A\" { in r; word aa; container; } thing b \"B\" { in r; word bb; } var n = 3; array t[2]; "
            + "each { n = n + 1; t[1] = random 1000; } verb end end alone; on end { win; } verb fall fall alone; on fall { lose; } verb bad bad alone; on bad { say 1 / 0; }";
    private static final int[] NO_PLACE = {Integer.MIN_VALUE, -1, 4, 5, Integer.MAX_VALUE};

    public static void main(String[] args) {
        promise9Save();
        promise9Refused();
        promise10Restore();
        promise10WhatIsSavedStays();
        promise10ItAndAgain();
        promise10Refused();
        promise11Undo();
        promise11UpToFive();
        promise11NotWhatBreaks();
        promise11ItAndAgain();
        promise11Ended();
        promise11Refused();
        promise12Holder();
        promise13First();
        promise14Has();
        promise15Value();
        promise16Cell();
        promise17Counts();
        promise17OfThePlay();
        promise17NothingIsPlayed();
        promise18Sound();
        Bench.end();
    }

    private static String state(Bench bench) {
        StoryHouse house = bench.house;
        StringBuilder text = new StringBuilder();
        for (int i = 1; i <= house.told(0); i++) {
            text.append(house.holder(i)).append(house.first(i, false)).append(house.first(i, true)).append(house.has(i, 4)).append(' ');
        }
        return text.append(house.value(0)).append(' ').append(house.cell(0, 1)).append(' ').append(house.told(7)).append(' ').append(house.told(8))
                .append(' ').append(house.told(9)).append(' ').append(house.told(11)).toString();
    }

    private static void promise9Save() {
        Bench.about("Promise 9: the play is saved in place 0 .. 3");
        Bench bench = Bench.playing(STORY);
        String[] states = new String[4];
        String[] lines = {"take aa", "open aa", "n", "u"};
        for (int place = 0; place < 4; place++) {
            bench.play(lines[place]);
            bench.house.save(place);
            states[place] = state(bench);
        }
        bench.playAll("d", "take all");
        for (int place = 3; place >= 0; place--) {
            bench.house.restore(place);
            Bench.same("place " + place, states[place], state(bench));
        }
        Bench.about("Promise 9: saving changes nothing that is played, and what was saved there is gone");
        bench.play("x bb");
        String before = state(bench);
        bench.house.save(2);
        Bench.same("the play", before, state(bench));
        Bench.same("what can be undone", 1, bench.house.told(10));
        Bench.same("OUT", "You see nothing special.\n", bench.out());
        bench.play("z");
        bench.house.restore(2);
        Bench.same("place 2", before, state(bench));
        bench.house.restore(1);
        Bench.same("place 1 stays", states[1], state(bench));
        bench.play("end");
        String ended = state(bench);
        bench.house.save(0);
        bench.house.begin(1);
        bench.house.restore(0);
        Bench.same("one that has ENDED", ended, state(bench));
        Bench.same("has ENDED", "3 The story is over.\n", bench.play("z"));
    }

    private static void promise9Refused() {
        Bench.about("Promise 9: IndexOutOfBoundsException; IllegalStateException: nothing is played");
        Bench bench = new Bench();
        for (int place : NO_PLACE) {
            Bench.refuses("nothing is built, place " + place, IndexOutOfBoundsException.class, () -> bench.house.save(place));
        }
        Bench.refuses("nothing is built", IllegalStateException.class, () -> bench.house.save(0));
        bench.build(STORY);
        for (int place : NO_PLACE) {
            Bench.refuses("nothing is played, place " + place, IndexOutOfBoundsException.class, () -> bench.house.save(place));
        }
        Bench.refuses("nothing is played", IllegalStateException.class, () -> bench.house.save(3));
        bench.house.begin(1);
        for (int place : NO_PLACE) {
            Bench.refuses("place " + place, IndexOutOfBoundsException.class, () -> bench.house.save(place));
        }
        for (int place = 0; place < 4; place++) {
            int there = place;
            Bench.refuses("nothing was saved by those", IllegalStateException.class, () -> bench.house.restore(there));
        }
    }

    private static void promise10Restore() {
        Bench.about("Promise 10: what was saved is played on; nothing can be undone then");
        Bench bench = Bench.playing(STORY);
        bench.playAll("open aa", "take bb", "z");
        bench.house.save(1);
        String saved = state(bench);
        bench.playAll("put bb in aa", "take aa", "u", "z", "z");
        bench.house.restore(1);
        Bench.same("as it was saved", saved, state(bench));
        Bench.same("nothing can be undone", 0, bench.house.told(10));
        Bench.same("undo", false, bench.house.undo());
        Bench.same("and the play stays", saved, state(bench));
        bench.play("z");
        Bench.same("what comes then can be", true, bench.house.undo());
        Bench.same("to what was restored", saved, state(bench));
        Bench.same("no further", false, bench.house.undo());
        Bench.same("it goes on", "1 Done.\n", bench.play("put it in aa"));
        bench.play("end");
        bench.house.restore(1);
        Bench.same("out of an ENDED play", saved, state(bench));
        Bench.same("it goes on, too", "1 Time passes.\n", bench.play("z"));
    }

    private static void promise10WhatIsSavedStays() {
        Bench.about("Promise 10: what is saved stays");
        Bench bench = Bench.playing(STORY);
        bench.play("take aa");
        bench.house.save(0);
        String saved = state(bench);
        for (int i = 0; i < 3; i++) {
            bench.playAll("open aa", "drop aa", "take bb", "n", "z", "x me");
            bench.house.undo();
            bench.house.restore(0);
            Bench.same("time " + i, saved, state(bench));
        }
        bench.house.begin(77);
        bench.house.restore(0);
        Bench.same("with its SEED", saved, state(bench));
        bench.build("!");
        bench.house.restore(0);
        Bench.same("behind a build with a FAULT", saved, state(bench));
    }

    private static void promise10ItAndAgain() {
        Bench.about("Promise 10: it and again mean what they meant as it was saved");
        Bench bench = Bench.playing(STORY);
        bench.house.save(0);
        bench.play("take bb");
        bench.house.save(1);
        bench.playAll("x me", "look");
        bench.house.restore(1);
        Bench.same("it", 5, bench.house.told(9));
        Bench.same("again", "1 You have that.\n", bench.play("g"));
        bench.house.restore(0);
        Bench.same("nothing is it", 0, bench.house.told(9));
        Bench.same("nothing is it in a LINE", "0 You see no such thing.\n", bench.play("x it"));
        Bench.same("nothing to repeat", "0 There is nothing to repeat.\n", bench.play("g"));
    }

    private static void promise10Refused() {
        Bench.about("Promise 10: IndexOutOfBoundsException; IllegalStateException: nothing was saved there since build()");
        Bench bench = new Bench();
        for (int place : NO_PLACE) {
            Bench.refuses("nothing is built, place " + place, IndexOutOfBoundsException.class, () -> bench.house.restore(place));
        }
        Bench.refuses("nothing is built", IllegalStateException.class, () -> bench.house.restore(0));
        bench.build(STORY);
        Bench.refuses("nothing is played", IllegalStateException.class, () -> bench.house.restore(0));
        bench.house.begin(1);
        bench.play("take aa");
        bench.house.save(2);
        String before = state(bench);
        for (int place : new int[] {0, 1, 3}) {
            Bench.refuses("nothing was saved in " + place, IllegalStateException.class, () -> bench.house.restore(place));
        }
        for (int place : NO_PLACE) {
            Bench.refuses("place " + place, IndexOutOfBoundsException.class, () -> bench.house.restore(place));
        }
        Bench.same("the play stays", before, state(bench));
        Bench.same("undo stays", 1, bench.house.told(10));
        Bench.same("OUT stays", "Taken.\n", bench.out());
        bench.build(STORY);
        Bench.refuses("saved ahead of build()", IllegalStateException.class, () -> bench.house.restore(2));
        bench.house.begin(1);
        Bench.refuses("and not since", IllegalStateException.class, () -> bench.house.restore(2));
        Bench.same("the new play stays", 0, bench.house.told(7));
    }

    private static void promise11Undo() {
        Bench.about("Promise 11: the play is as before the latest command: whether there was one");
        Bench bench = Bench.playing(STORY);
        Bench.same("none yet", false, bench.house.undo());
        bench.playAll("dance", "", "go", "x zz", "g", "take all all");
        Bench.same("no command", false, bench.house.undo());
        String[] lines = {"z", "take aa", "open aa", "u", "x me"};
        for (String line : lines) {
            String before = state(bench);
            bench.play(line);
            Bench.same("changed by " + line, false, before.equals(state(bench)));
            bench.play("dance");
            Bench.same("undone " + line, true, bench.house.undo());
            Bench.same("as before " + line, before, state(bench));
            Bench.same("OUT", 0, bench.house.size());
            bench.play(line);
        }
    }

    private static void promise11UpToFive() {
        Bench.about("Promise 11: of up to five, one behind the other");
        for (int commands = 0; commands <= 13; commands++) {
            Bench bench = Bench.playing(STORY);
            String[] states = new String[commands];
            for (int i = 0; i < commands; i++) {
                states[i] = state(bench);
                bench.play(i % 3 == 0 ? "take bb" : i % 3 == 1 ? "drop bb" : "x me");
                Bench.same("can be undone", Math.min(5, i + 1), bench.house.told(10));
            }
            for (int i = commands - 1; i >= 0 && i >= commands - 5; i--) {
                Bench.same("undo of " + i, true, bench.house.undo());
                Bench.same("as before " + i, states[i], state(bench));
                Bench.same("left", i - Math.max(0, commands - 5), bench.house.told(10));
            }
            String last = state(bench);
            Bench.same("no more of " + commands, false, bench.house.undo());
            Bench.same("the play stays", last, state(bench));
        }
        Bench bench = Bench.playing(STORY);
        bench.playAll("z", "z", "z", "z", "z");
        bench.house.undo();
        bench.house.undo();
        bench.playAll("z", "z", "z", "z");
        Bench.same("undone and played anew", "5 7", bench.house.told(10) + " " + bench.house.told(7));
        for (int turns = 6; turns >= 2; turns--) {
            Bench.same("undo to " + turns, true, bench.house.undo());
            Bench.same("turns", turns, bench.house.told(7));
        }
        Bench.same("no more", false, bench.house.undo());
    }

    private static void promise11NotWhatBreaks() {
        Bench.about("Promise 11: the latest command that did not BREAK");
        Bench bench = Bench.playing(STORY);
        bench.play("bad");
        Bench.same("none", false, bench.house.undo());
        String before = state(bench);
        bench.play("take aa");
        for (int i = 0; i < 8; i++) {
            bench.play("bad");
        }
        Bench.same("one", 1, bench.house.told(10));
        Bench.same("it is undone", true, bench.house.undo());
        Bench.same("as before it", before, state(bench));
        String[] states = new String[5];
        for (int i = 0; i < 5; i++) {
            states[i] = state(bench);
            bench.playAll("bad", "z", "bad");
        }
        for (int i = 4; i >= 0; i--) {
            Bench.same("undo " + i, true, bench.house.undo());
            Bench.same("as before " + i, states[i], state(bench));
            bench.play("bad");
        }
    }

    private static void promise11ItAndAgain() {
        Bench.about("Promise 11: what it and again mean goes back, too");
        Bench bench = Bench.playing(STORY);
        bench.play("take bb");
        bench.play("x aa");
        bench.house.undo();
        Bench.same("it", 5, bench.house.told(9));
        Bench.same("again", "1 You have that.\n", bench.play("g"));
        bench.house.undo();
        bench.house.undo();
        Bench.same("nothing is it", 0, bench.house.told(9));
        Bench.same("nothing to repeat", "0 There is nothing to repeat.\n", bench.play("g"));
        bench.play("z");
        bench.play("drop bb");
        bench.house.undo();
        Bench.same("a shorter LINE", "1 Time passes.\n", bench.play("g"));
    }

    private static void promise11Ended() {
        Bench.about("Promise 11: a command by which the play ENDED is undone, too");
        Bench bench = Bench.playing(STORY);
        bench.play("take aa");
        String before = state(bench);
        for (String line : new String[] {"end", "fall"}) {
            bench.play(line);
            bench.playAll("z", "dance");
            Bench.same("can be undone", 2, bench.house.told(10));
            Bench.same("undo", true, bench.house.undo());
            Bench.same("as before", before, state(bench));
            Bench.same("sound", true, bench.house.sound());
        }
        Bench.same("it goes on", "1 You have that.\n", bench.play("g"));
    }

    private static void promise11Refused() {
        Bench.about("Promise 11: IllegalStateException: nothing is played");
        Bench bench = new Bench();
        Bench.refuses("nothing is built", IllegalStateException.class, bench.house::undo);
        bench.build(STORY);
        Bench.refuses("not begun", IllegalStateException.class, bench.house::undo);
        bench.house.begin(1);
        bench.play("z");
        bench.build(STORY);
        Bench.refuses("built anew", IllegalStateException.class, bench.house::undo);
        Bench.same("OUT stays", "Time passes.\n", bench.out());
        bench.house.begin(1);
        Bench.same("nothing is left of the play before", false, bench.house.undo());
        bench.play("z");
        bench.house.begin(1);
        Bench.same("nor behind begin", false, bench.house.undo());
    }

    private static final int[] NO_OBJECT = {Integer.MIN_VALUE, -1, 0, 6, 7, 119, 120, 121, 122, Integer.MAX_VALUE};
    private static final String TREE = "room r \"R\" {} thing a \"A\" { in r; } thing b \"B\" { in a; } thing c \"C\" { in a; } verb v v alone; on v { remove c; move b to player; } ";

    private static void promise12Holder() {
        Bench.about("Promise 12: what an OBJECT is in; 0 for none");
        Bench bench = Bench.playing(TREE);
        StoryHouse house = bench.house;
        Bench.same("holders", "2 0 2 3 3", house.holder(1) + " " + house.holder(2) + " " + house.holder(3) + " " + house.holder(4) + " " + house.holder(5));
        bench.play("v");
        Bench.same("holders then", "2 0 2 1 0", house.holder(1) + " " + house.holder(2) + " " + house.holder(3) + " " + house.holder(4) + " " + house.holder(5));
        Bench.about("Promise 12: IndexOutOfBoundsException: there is no such OBJECT; IllegalStateException: nothing is played");
        for (int i : NO_OBJECT) {
            Bench.refuses("holder " + i, IndexOutOfBoundsException.class, () -> house.holder(i));
        }
        bench.build(TREE);
        for (int i : NO_OBJECT) {
            Bench.refuses("not played, holder " + i, IndexOutOfBoundsException.class, () -> house.holder(i));
        }
        for (int i = 1; i <= 5; i++) {
            int there = i;
            Bench.refuses("not played, holder " + i, IllegalStateException.class, () -> house.holder(there));
        }
    }

    private static void promise13First() {
        Bench.about("Promise 13: the first that is in an OBJECT (or, next, the next one in what it is in); 0 for none");
        Bench bench = Bench.playing(TREE);
        StoryHouse house = bench.house;
        Bench.same("firsts", "0 3 5 0 0", house.first(1, false) + " " + house.first(2, false) + " " + house.first(3, false) + " " + house.first(4, false) + " " + house.first(5, false));
        Bench.same("nexts", "0 0 1 0 4", house.first(1, true) + " " + house.first(2, true) + " " + house.first(3, true) + " " + house.first(4, true) + " " + house.first(5, true));
        bench.play("v");
        Bench.same("firsts then", "4 3 0 0 0", house.first(1, false) + " " + house.first(2, false) + " " + house.first(3, false) + " " + house.first(4, false) + " " + house.first(5, false));
        Bench.same("nexts then", "0 0 1 0 0", house.first(1, true) + " " + house.first(2, true) + " " + house.first(3, true) + " " + house.first(4, true) + " " + house.first(5, true));
        Bench.about("Promise 13: IndexOutOfBoundsException; IllegalStateException");
        for (int i : NO_OBJECT) {
            Bench.refuses("first " + i, IndexOutOfBoundsException.class, () -> house.first(i, false));
            Bench.refuses("next " + i, IndexOutOfBoundsException.class, () -> house.first(i, true));
        }
        bench.build(TREE);
        Bench.refuses("not played, first 6", IndexOutOfBoundsException.class, () -> house.first(6, false));
        Bench.refuses("not played, next 0", IndexOutOfBoundsException.class, () -> house.first(0, true));
        Bench.refuses("not played, first", IllegalStateException.class, () -> house.first(5, false));
        Bench.refuses("not played, next", IllegalStateException.class, () -> house.first(1, true));
    }

    private static void promise14Has() {
        Bench.about("Promise 14: 0 container, 1 fixed, 2 hidden, 3 light, 4 open, 5 supporter, 6 dark");
        String[] attributes = {"container", "fixed", "hidden", "light", "open", "supporter", "dark"};
        for (int i = 0; i < 7; i++) {
            String where = i == 6 ? "room s \"S\" { dark; }" : "thing s \"S\" { " + attributes[i] + "; }";
            StoryHouse house = Bench.playing("room r \"R\" {} " + where).house;
            for (int j = 0; j < 7; j++) {
                Bench.same(attributes[i] + " has " + j, i == j, house.has(3, j));
                Bench.same("the room has " + j, false, house.has(2, j));
                Bench.same("the player has " + j, false, house.has(1, j));
            }
            if (i < 6) {
                Bench bench = Bench.playing("room r \"R\" {} verb v v alone; on v { set player " + attributes[i] + "; set r " + attributes[i] + "; } on wait { clear r " + attributes[i] + "; }");
                bench.play("v");
                Bench.same("set " + attributes[i], true, bench.house.has(1, i) && bench.house.has(2, i));
                bench.play("z");
                Bench.same("clear " + attributes[i], true, bench.house.has(1, i) && !bench.house.has(2, i));
            }
        }
        Bench.about("Promise 14: IndexOutOfBoundsException; IllegalArgumentException: another number; IllegalStateException");
        Bench bench = Bench.playing(TREE);
        StoryHouse house = bench.house;
        for (int i : NO_OBJECT) {
            Bench.refuses("has " + i, IndexOutOfBoundsException.class, () -> house.has(i, 0));
            Bench.refuses("has " + i + ", both wrong", IndexOutOfBoundsException.class, () -> house.has(i, 7));
        }
        int[] others = {Integer.MIN_VALUE, -1, 7, 8, 31, 32, 33, Integer.MAX_VALUE};
        for (int i : others) {
            Bench.refuses("attribute " + i, IllegalArgumentException.class, () -> house.has(1, i));
        }
        bench.build(TREE);
        for (int i : others) {
            Bench.refuses("not played, attribute " + i, IllegalArgumentException.class, () -> house.has(5, i));
            Bench.refuses("not played, both wrong " + i, IndexOutOfBoundsException.class, () -> house.has(6, i));
        }
        Bench.refuses("not played", IllegalStateException.class, () -> house.has(5, 6));
    }

    private static void promise15Value() {
        Bench.about("Promise 15: the number of var k, from 0, in the order of the SOURCE");
        String story = "var x = 4; room r \"R\" {} var y = -5; array q[2]; var z = 32767; on wait { x = 6; z = z + 1; } ";
        Bench bench = Bench.playing(story);
        StoryHouse house = bench.house;
        Bench.same("values", "4 -5 32767", house.value(0) + " " + house.value(1) + " " + house.value(2));
        bench.play("z");
        Bench.same("values then", "6 -5 -32768", house.value(0) + " " + house.value(1) + " " + house.value(2));
        Bench.about("Promise 15: IndexOutOfBoundsException; IllegalStateException");
        int[] none = {Integer.MIN_VALUE, -1, 3, 4, 99, 100, Integer.MAX_VALUE};
        for (int k : none) {
            Bench.refuses("value " + k, IndexOutOfBoundsException.class, () -> house.value(k));
        }
        bench.build(story);
        for (int k : none) {
            Bench.refuses("not played, value " + k, IndexOutOfBoundsException.class, () -> house.value(k));
        }
        Bench.refuses("not played", IllegalStateException.class, () -> house.value(2));
        bench.build("room r \"R\" {}");
        Bench.refuses("no var", IndexOutOfBoundsException.class, () -> house.value(0));
        house.begin(1);
        Bench.refuses("no var in a play", IndexOutOfBoundsException.class, () -> house.value(0));
    }

    private static void promise16Cell() {
        Bench.about("Promise 16: cell i (from 0) of array k (from 0, in the order of the SOURCE)");
        String story = "array p[1]; room r \"R\" {} array q[3]; var x = 1; array s[2]; on wait { p[0] = 1; q[0] = 2; q[2] = 3; s[0] = 4; s[1] = 5; } ";
        Bench bench = Bench.playing(story);
        StoryHouse house = bench.house;
        bench.play("z");
        Bench.same("cells", "1 2 0 3 4 5", house.cell(0, 0) + " " + house.cell(1, 0) + " " + house.cell(1, 1) + " " + house.cell(1, 2) + " " + house.cell(2, 0) + " " + house.cell(2, 1));
        Bench.about("Promise 16: IndexOutOfBoundsException; IllegalStateException");
        for (int k : new int[] {Integer.MIN_VALUE, -1, 3, 4, 19, 20, Integer.MAX_VALUE}) {
            Bench.refuses("array " + k, IndexOutOfBoundsException.class, () -> house.cell(k, 0));
        }
        int[] sizes = {1, 3, 2};
        for (int k = 0; k < 3; k++) {
            int array = k;
            for (int i : new int[] {Integer.MIN_VALUE, -1, sizes[k], sizes[k] + 1, 400, 1000, Integer.MAX_VALUE}) {
                Bench.refuses("array " + k + ", cell " + i, IndexOutOfBoundsException.class, () -> house.cell(array, i));
            }
        }
        bench.build(story);
        Bench.refuses("not played, array 3", IndexOutOfBoundsException.class, () -> house.cell(3, 0));
        Bench.refuses("not played, cell 2", IndexOutOfBoundsException.class, () -> house.cell(2, 2));
        Bench.refuses("not played", IllegalStateException.class, () -> house.cell(2, 1));
        bench.build("room r \"R\" {}");
        house.begin(1);
        Bench.refuses("no array", IndexOutOfBoundsException.class, () -> house.cell(0, 0));
    }

    private static void promise17Counts() {
        Bench.about("Promise 17: how many OBJECTS, verbs, vars, arrays, defs, ons, eachs were built");
        Bench bench = new Bench();
        bench.build("room r \"R\" {}");
        int[] least = {2, 11, 0, 0, 0, 0, 0, 0, 0, 0, 0, 0};
        for (int what = 0; what < 12; what++) {
            Bench.same("the least, told " + what, least[what], bench.house.told(what));
        }
        bench.build("room r \"R\" {} thing a \"A\" {} verb v v alone; verb w w one; var a1 = 1; var a2 = 1; var a3 = 1; array b1[9]; array b2[9]; array b3[9]; array b4[9]; "
                + "def f1() {} def f2() {} def f3() {} def f4() {} def f5() {} on look {} on look {} on look {} on look {} on look {} on look {} "
                + "each {} each {} each {} each {} each {} each {} each {}");
        int[] more = {3, 13, 3, 4, 5, 6, 7, 0, 0, 0, 0, 0};
        for (int what = 0; what < 12; what++) {
            Bench.same("more, told " + what, more[what], bench.house.told(what));
        }
        bench.house.begin(8);
        bench.playAll("x me", "z");
        int[] played = {3, 13, 3, 4, 5, 6, 7, 2, 0, 1, 2, 8};
        for (int what = 0; what < 12; what++) {
            Bench.same("played, told " + what, played[what], bench.house.told(what));
        }
        Bench.about("Promise 17: IllegalArgumentException: another what");
        for (int what : new int[] {Integer.MIN_VALUE, -1, 12, 13, Integer.MAX_VALUE}) {
            Bench.refuses("told " + what, IllegalArgumentException.class, () -> bench.house.told(what));
            Bench.refuses("told " + what + " when nothing is built", IllegalArgumentException.class, () -> new StoryHouse().told(what));
        }
    }

    private static void promise17OfThePlay() {
        Bench.about("Promise 17: TURNS (7), 0, 1, 2 as the play has ENDED (8), what it means (9), how many can be undone (10), the SEED (11)");
        Bench bench = Bench.playing(STORY);
        bench.house.begin(-77);
        Bench.same("at the beginning", "0 0 0 0 -77", played(bench));
        bench.play("take aa");
        Bench.same("behind a command", "1 0 4 1 " + (-77 * 69069 + 1), played(bench));
        bench.play("bad");
        Bench.same("behind a BREAK", "1 0 4 1 " + (-77 * 69069 + 1), played(bench));
        bench.play("end");
        Bench.same("won", "1 1 4 2 " + (-77 * 69069 + 1), played(bench));
        bench.house.undo();
        bench.play("fall");
        Bench.same("lost", "1 2 4 2 " + (-77 * 69069 + 1), played(bench));
        bench.house.undo();
        bench.house.undo();
        Bench.same("undone", "0 0 0 0 -77", played(bench));
    }

    private static String played(Bench bench) {
        StoryHouse house = bench.house;
        return house.told(7) + " " + house.told(8) + " " + house.told(9) + " " + house.told(10) + " " + house.told(11);
    }

    private static void promise17NothingIsPlayed() {
        Bench.about("Promise 17: 0 of 7 to 11 when nothing is played, of all when nothing is built");
        Bench bench = new Bench();
        bench.build("room r");
        for (int what = 0; what < 12; what++) {
            Bench.same("nothing is built, told " + what, 0, bench.house.told(what));
        }
        bench.build(STORY);
        bench.house.begin(5);
        bench.playAll("take aa", "end");
        Bench.same("played", false, "0 0 0 0 0".equals(played(bench)));
        bench.build(STORY);
        Bench.same("not played", "0 0 0 0 0", played(bench));
        Bench.same("but built", 5, bench.house.told(0));
    }

    private static void promise18Sound() {
        Bench.about("Promise 18: true also when nothing is built, or nothing is played");
        Bench bench = new Bench();
        Bench.same("nothing is built", true, bench.house.sound());
        bench.build("!");
        Bench.same("a FAULT", true, bench.house.sound());
        bench.build(STORY);
        Bench.same("nothing is played", true, bench.house.sound());
        Bench.about("Promise 18: all is in order beneath, while a play goes on, and when it has ENDED");
        bench.house.begin(1);
        for (String line : new String[] {"take all", "open aa", "put bb in aa", "bad", "u", "drop all", "d", "g", "dance", "end", "z"}) {
            bench.play(line);
            Bench.same("behind " + line, true, bench.house.sound());
            bench.house.save(0);
            Bench.same("behind save", true, bench.house.sound());
            bench.house.restore(0);
            Bench.same("behind restore", true, bench.house.sound());
        }
        bench.house.begin(1);
        Bench.same("begun anew", true, bench.house.sound());
        for (String turn : new String[] {"while 1 {}", "f(1);", "win;", "if 1 { done; }", "say 1 + holder 0;", "say 1 + f2(2);"}) {
            bench = Bench.playing("room r \"R\" {} def f(n) { f(n + 1); } def f2(n) { let k = n; while 1 { lose; } } on wait { let i = 5; say i, 1 + 2; " + turn + " }");
            bench.play("z");
            Bench.same("behind " + turn, true, bench.house.sound());
            bench.house.undo();
            Bench.same("undone " + turn, true, bench.house.sound());
        }
    }
}
