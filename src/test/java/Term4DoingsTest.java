/** Term 4, DOINGS: what each verb of old tells and does at its boundaries, take all and drop all, and OUT. */
public final class Term4DoingsTest {
    private static final String R = "room r \"R\" {} ";

    public static void main(String[] args) {
        lookInTheDark();
        lookAtTheRoom();
        lookAtThings();
        lookInThings();
        inventory();
        waiting();
        examine();
        take();
        drop();
        open();
        close();
        putRefused();
        putIntoItself();
        putDone();
        go();
        goLooks();
        allOfWhat();
        allOfNone();
        allOneByOne();
        allIsOneTurn();
        out();
        Bench.end();
    }

    private static String lookOf(String story) {
        return Bench.playing(story).play("look");
    }

    private static void lookInTheDark() {
        Bench.about("Term 4: look: It is dark. without LIGHT");
        Bench.same("alone", "1 It is dark.\n", lookOf("room r \"R\" { dark; text \"T.\"; } thing a \"A\" { in r; }"));
        Bench.same("with a light", "1 R\nT.\nThere is A here.\n", lookOf("room r \"R\" { dark; text \"T.\"; } thing a \"A\" { in r; light; }"));
    }

    private static void lookAtTheRoom() {
        Bench.about("Term 4: look: the room's NAME, its text, if it has one");
        Bench.same("no text", "1 R\n", lookOf(R));
        Bench.same("a text", "1 The room\nA text.\n", lookOf("room r \"The room\" { text \"A text.\"; }"));
        Bench.same("a text of nothing", "1 R\n\n", lookOf("room r \"R\" { text \"\"; }"));
        Bench.same("a NAME of nothing", "1 \nT\n", lookOf("room r \"\" { text \"T\"; }"));
        Bench.same("new lines in them", "1 R\nr\n\nT\n\n", lookOf("room r \"R^r^\" { text \"T^\"; }"));
    }

    private static void lookAtThings() {
        Bench.about("Term 4: look: for each thing in the room, first to last, but the player and hidden ones");
        Bench.same("first to last", "1 R\nThere is C here.\nThere is A here.\n", lookOf("thing a \"A\" { in r; } thing b \"B\" { in r; hidden; } thing c \"C\" { in r; } "
                + "thing d \"D\" {} thing e \"E\" { in player; } thing f \"F\" { in s; } thing g \"G\" { in a; } " + R + "room s \"S\" {}"));
        Bench bench = Bench.playing(R + "thing a \"A\" { in r; } thing b \"B\" { in r; } on wait { move a to r; move player to r; move player to r; }");
        bench.play("z");
        Bench.same("the player is first now", "1 R\nThere is A here.\nThere is B here.\n", bench.play("l"));
        Bench.same("none", "1 R\n", lookOf(R + "thing a \"A\" { in r; hidden; }"));
    }

    private static void lookInThings() {
        Bench.about("Term 4: look: if it is a supporter or an open container, for each thing in it that is not hidden: On NAME .. or In NAME .. (On if it is a supporter)");
        String story = R + "thing a \"A\" { in r; # } thing b \"B\" { in a; } thing c \"C\" { in a; hidden; } thing d \"D\" { in a; supporter; } thing e \"E\" { in d; }";
        String none = "1 R\nThere is A here.\n";
        String on = none + "On A there is D.\nOn A there is B.\n";
        Bench.same("none", none, lookOf(story.replace("#", "")));
        Bench.same("closed", none, lookOf(story.replace("#", "container;")));
        Bench.same("open, no container", none, lookOf(story.replace("#", "open;")));
        Bench.same("open", on.replace("On A", "In A"), lookOf(story.replace("#", "container; open;")));
        Bench.same("a supporter", on, lookOf(story.replace("#", "supporter;")));
        Bench.same("a supporter and closed", on, lookOf(story.replace("#", "supporter; container;")));
        Bench.same("a supporter and open", on, lookOf(story.replace("#", "supporter; container; open;")));
        Bench.same("a hidden one", "1 R\n", lookOf(story.replace("#", "supporter; hidden;")));
        Bench.same("behind each thing", "1 R\nThere is C here.\nThere is B here.\nOn B there is D.\nThere is A here.\nIn A there is E.\n",
                lookOf(R + "thing a \"A\" { in r; container; open; } thing b \"B\" { in r; supporter; } thing c \"C\" { in r; } thing d \"D\" { in b; } thing e \"E\" { in a; }"));
        Bench.about("Term 4: look: what the player has, though a supporter, is not told");
        Bench bench = Bench.playing(R + "thing a \"A\" { in player; } on wait { set player supporter; }");
        bench.play("z");
        Bench.same("player", "1 R\n", bench.play("l"));
    }

    private static void inventory() {
        Bench.about("Term 4: inventory: You carry nothing. or You carry: and a line for each that the player has and that is not hidden");
        Bench.same("nothing", "1 You carry nothing.\n", Bench.playing(R + "thing a \"A\" { in r; }").play("i"));
        Bench.same("hidden ones alone", "1 You carry nothing.\n", Bench.playing(R + "thing a \"A\" { in player; hidden; }").play("i"));
        Bench.same("one", "1 You carry:\n  A\n", Bench.playing(R + "thing a \"A\" { in player; }").play("i"));
        Bench.same("first to last", "1 You carry:\n  D\n  B\n  A\n", Bench.playing("room r \"R\" { dark; } thing a \"A\" { in player; } thing b \"B\" { in player; supporter; } "
                + "thing c \"C\" { in player; hidden; } thing d \"D\" { in player; } thing e \"E\" { in b; } thing f \"F\" { in r; }").play("i"));
    }

    private static void waiting() {
        Bench.about("Term 4: wait: Time passes.");
        Bench bench = Bench.playing(R);
        Bench.same("wait", "1 Time passes.\n", bench.play("wait"));
        Bench.same("TURNS", 1, bench.house.told(7));
    }

    private static void examine() {
        Bench.about("Term 4: examine: its text, or You see nothing special.");
        Bench bench = Bench.playing(R + "thing a \"A\" { in r; word aa; text \"It is^so.\"; } thing b \"B\" { in r; word bb; } thing c \"C\" { in r; word cc; text \"\"; }");
        Bench.same("a text", "1 It is\nso.\n", bench.play("x aa"));
        Bench.same("none", "1 You see nothing special.\n", bench.play("x bb"));
        Bench.same("a text of nothing", "1 \n", bench.play("x cc"));
        Bench.same("the player", "1 You see nothing special.\n", bench.play("x me"));
    }

    private static void take() {
        Bench.about("Term 4: take: You have that. (the player, or what it has straight away); That is fixed. (fixed); otherwise Taken.");
        String story = R + "thing a \"A\" { in player; word aa; supporter; fixed; } thing b \"B\" { in a; word bb; } thing c \"C\" { in r; word cc; fixed; } "
                + "thing d \"D\" { in r; word dd; supporter; } thing e \"E\" { in d; word ee; } thing f \"F\" { in a; word ff; fixed; } ";
        Bench bench = Bench.playing(story);
        Bench.same("the player", "1 You have that.\n", bench.play("take me"));
        Bench.same("had, and fixed", "1 You have that.\n", bench.play("take aa"));
        Bench.same("had, but not straight away", "1 Taken.\n", bench.play("take bb"));
        Bench.same("before all that is there", 4, bench.house.first(1, false));
        Bench.same("fixed in what is had", "1 That is fixed.\n", bench.play("take ff"));
        Bench.same("fixed", "1 That is fixed.\n", bench.play("take cc"));
        Bench.same("it stays", 2, bench.house.holder(5));
        Bench.same("with all that is in it", "1 Taken.\n", bench.play("take dd"));
        Bench.same("what is in it", 6, bench.house.holder(7));
        Bench.same("out of what is had", "1 Taken.\n", bench.play("take ee"));
        bench = Bench.playing(story + "on examine { set player fixed; }");
        bench.play("x aa");
        Bench.same("a fixed player", "1 You have that.\n", bench.play("take me"));
        bench = Bench.playing(story + "on take { if noun == d { remove noun; } if noun == c { move noun to player; } if noun == e { move noun to a; } }");
        Bench.same("moved from nothing by the doing", "1 Taken.\n", bench.play("take dd"));
        Bench.same("there", 1, bench.house.holder(6));
        Bench.same("its rules go first", "1 You have that.\n", bench.play("take cc"));
        Bench.same("wherever it is then", "1 Taken.\n", bench.play("take ee"));
    }

    private static void drop() {
        Bench.about("Term 4: drop: You do not have that. (what the player has not straight away); otherwise it is moved to here: Dropped.");
        Bench bench = Bench.playing(R + "room s \"S\" {} thing a \"A\" { in player; word aa; supporter; fixed; } thing b \"B\" { in a; word bb; } thing c \"C\" { in r; word cc; } "
                + "on wait { move player to s; }");
        Bench.same("not had", "1 You do not have that.\n", bench.play("drop cc"));
        Bench.same("the player", "1 You do not have that.\n", bench.play("drop me"));
        Bench.same("not straight away", "1 You do not have that.\n", bench.play("drop bb"));
        bench.play("z");
        Bench.same("fixed or not", "1 Dropped.\n", bench.play("drop aa"));
        Bench.same("here", 3, bench.house.holder(4));
        Bench.same("before all that is there", 4, bench.house.first(3, false));
        Bench.same("with all that is in it", 4, bench.house.holder(5));
        Bench.same("no more", "1 You do not have that.\n", bench.play("drop aa"));
    }

    private static void open() {
        Bench.about("Term 4: open: You can not open that. (no container); That is open.; otherwise it is open: Opened.");
        Bench bench = Bench.playing(R + "thing a \"A\" { in r; word aa; container; } thing b \"B\" { in r; word bb; } thing c \"C\" { in r; word cc; open; supporter; } thing d \"D\" { in r; word dd; container; open; }");
        Bench.same("no container", "1 You can not open that.\n", bench.play("open bb"));
        Bench.same("not open either", false, bench.house.has(4, 4));
        Bench.same("no container, open", "1 You can not open that.\n", bench.play("open cc"));
        Bench.same("the player", "1 You can not open that.\n", bench.play("open me"));
        Bench.same("open", "1 That is open.\n", bench.play("open dd"));
        Bench.same("opened", "1 Opened.\n", bench.play("open aa"));
        Bench.same("it is", true, bench.house.has(3, 4));
        Bench.same("open then", "1 That is open.\n", bench.play("open aa"));
    }

    private static void close() {
        Bench.about("Term 4: close: You can not close that.; That is closed.; Closed.");
        Bench bench = Bench.playing(R + "thing a \"A\" { in r; word aa; container; } thing b \"B\" { in r; word bb; } thing c \"C\" { in r; word cc; open; supporter; } thing d \"D\" { in r; word dd; container; open; }");
        Bench.same("no container", "1 You can not close that.\n", bench.play("close bb"));
        Bench.same("no container, open", "1 You can not close that.\n", bench.play("close cc"));
        Bench.same("open still", true, bench.house.has(5, 4));
        Bench.same("the player", "1 You can not close that.\n", bench.play("close me"));
        Bench.same("closed", "1 That is closed.\n", bench.play("close aa"));
        Bench.same("now closed", "1 Closed.\n", bench.play("close dd"));
        Bench.same("it is not open", false, bench.house.has(6, 4));
        Bench.same("closed then", "1 That is closed.\n", bench.play("close dd"));
    }

    private static void putRefused() {
        Bench.about("Term 4: putin, puton: You do not have that.; You can not do that.; putin: That is closed.");
        String story = R + "thing a \"A\" { in player; word aa; } thing b \"B\" { in r; word bb; } thing c \"C\" { in r; word cc; # } thing d \"D\" { in player; word dd; supporter; } thing e \"E\" { in d; word ee; } ";
        String not = "1 You do not have that.\n";
        String can = "1 You can not do that.\n";
        String closed = "1 That is closed.\n";
        String done = "1 Done.\n";
        String[][] due = {{"", can, can}, {"container;", closed, can}, {"container; open;", done, can}, {"supporter;", can, done}, {"open;", can, can},
            {"supporter; open;", can, done}, {"supporter; container;", closed, done}, {"supporter; container; open;", done, done}};
        for (String[] one : due) {
            String told = story.replace("#", one[0]);
            Bench.same("in " + one[0], one[1], Bench.playing(told).play("put aa in cc"));
            Bench.same("on " + one[0], one[2], Bench.playing(told).play("put aa on cc"));
            Bench.same("not had, in " + one[0], not, Bench.playing(told).play("put bb in cc"));
            Bench.same("not had, on " + one[0], not, Bench.playing(told).play("put bb on cc"));
            Bench.same("the player in " + one[0], not, Bench.playing(told).play("put me in cc"));
            Bench.same("had, not straight away, in " + one[0], not, Bench.playing(told).play("put ee in cc"));
            Bench.same("itself, not had, on " + one[0], not, Bench.playing(told).play("put cc on cc"));
        }
    }

    private static void putIntoItself() {
        Bench.about("Term 4: putin, puton: You can not do that. (second is the noun or in it, by however many)");
        String both = "container; open; supporter; ";
        Bench bench = Bench.playing(R + "thing a \"A\" { in player; word aa; " + both + "} thing b \"B\" { in a; word bb; " + both + "} thing c \"C\" { in b; word cc; " + both + "} "
                + "thing d \"D\" { in c; word dd; " + both + "} thing e \"E\" { in player; word ee; " + both + "} thing f \"F\" { in a; word ff; container; }");
        for (String second : new String[] {"aa", "bb", "cc", "dd"}) {
            Bench.same("in " + second, "1 You can not do that.\n", bench.play("put aa in " + second));
            Bench.same("on " + second, "1 You can not do that.\n", bench.play("put aa on " + second));
        }
        Bench.same("closed, and in it", "1 You can not do that.\n", bench.play("put aa in ff"));
        Bench.same("nothing moved", "1 3 4 5", bench.house.holder(3) + " " + bench.house.holder(4) + " " + bench.house.holder(5) + " " + bench.house.holder(6));
        Bench.same("beside it", "1 Done.\n", bench.play("put ee in dd"));
        Bench.same("now in it, too", "1 You can not do that.\n", bench.play("put aa on ee"));
    }

    private static void putDone() {
        Bench.about("Term 4: putin, puton: otherwise moved there: Done.");
        Bench bench = Bench.playing(R + "thing a \"A\" { in player; word aa; } thing b \"B\" { in player; word bb; } thing c \"C\" { in r; word cc; container; open; } thing d \"D\" { in player; word dd; supporter; } "
                + "on wait { set player container; set player open; }");
        Bench.same("in", "1 Done.\n", bench.play("put aa in cc"));
        Bench.same("another one", "1 Done.\n", bench.play("put bb in cc"));
        Bench.same("before all that is there", "4 3 0", bench.house.first(5, false) + " " + bench.house.first(4, true) + " " + bench.house.first(3, true));
        bench.play("take aa");
        Bench.same("on what is had", "1 Done.\n", bench.play("put aa on dd"));
        Bench.same("there", 6, bench.house.holder(3));
        bench.playAll("take aa", "take bb");
        Bench.same("in the player", "1 You can not do that.\n", bench.play("put aa in me"));
        bench.play("z");
        Bench.same("in a player who is an open container", "1 Done.\n", bench.play("put aa in me"));
        Bench.same("before all that is there, also if it was there", 3, bench.house.first(1, false));
    }

    private static void go() {
        Bench.about("Term 4: go: You can not go there. (no such exit); otherwise the player is moved to that room");
        Bench bench = Bench.playing("room r \"R\" { exit north s; exit up r; } thing a \"A\" { in r; } thing b \"B\" { in s; } room s \"S\" {} on go down { move player to s; }");
        for (String way : new String[] {"s", "e", "w"}) {
            Bench.same(way, "1 You can not go there.\n", bench.play(way));
        }
        Bench.same("to the same room", "1 R\nThere is A here.\n", bench.play("up"));
        Bench.same("before all that is there", 1, bench.house.first(2, false));
        Bench.same("to another room", "1 S\nThere is B here.\n", bench.play("n"));
        Bench.same("there", 5, bench.house.holder(1));
        Bench.same("exits are of one way", "1 You can not go there.\n", bench.play("s"));
        bench.house.begin(1);
        Bench.same("the exits of where its rules moved the player", "1 You can not go there.\n", bench.play("d"));
        Bench.same("moved", 5, bench.house.holder(1));
    }

    private static void goLooks() {
        Bench.about("Term 4: go: a look is done (without rules)");
        Bench bench = Bench.playing("room r \"R\" { exit north s; exit up t; } room s \"S\" { text \"T.\"; } room t \"T\" { dark; } on look { say 1; done; } each { say 2; }");
        Bench.same("look", "1 12", bench.play("look"));
        Bench.same("go", "1 S\nT.\n2", bench.play("n"));
        bench.house.undo();
        Bench.same("into the dark", "1 It is dark.\n2", bench.play("u"));
    }

    private static void allOfWhat() {
        Bench.about("Term 4: take all, drop all: of the things in the room (in the player), first to last, those that are not hidden, nor the player, nor (take) fixed");
        String story = R + "thing a \"A\" { in r; } thing b \"B\" { in r; fixed; } thing c \"C\" { in r; hidden; } thing d \"D\" { in r; supporter; } thing e \"E\" { in d; } thing f \"F\" { in player; } "
                + "room s \"S\" {} thing g \"G\" { in s; } thing h \"H\" { in player; fixed; } thing i \"I\" { in player; hidden; } thing j \"J\" { in f; } thing k \"K\" {} ";
        Bench bench = Bench.playing(story);
        Bench.same("take", "1 D: Taken.\nA: Taken.\n", bench.play("take all"));
        Bench.same("drop", "1 A: Dropped.\nD: Dropped.\nH: Dropped.\nF: Dropped.\n", bench.play("drop all"));
        Bench.same("those that stayed", "2 2 6 1 2 8", bench.house.holder(4) + " " + bench.house.holder(5) + " " + bench.house.holder(7) + " "
                + bench.house.holder(12) + " " + bench.house.holder(11) + " " + bench.house.holder(13));
        Bench.same("fixed ones are not taken", "1 F: Taken.\nD: Taken.\nA: Taken.\n", bench.play("get all"));
    }

    private static void allOfNone() {
        Bench.about("Term 4: take all, drop all: none, or without LIGHT (take): There is nothing to do., and it takes no time");
        String none = "0 There is nothing to do.\n";
        Bench bench = Bench.playing(R + "each { say 1; } on take { say 2; } on drop { say 3; } thing a \"A\" { in r; fixed; } thing b \"B\" { in r; hidden; } thing c \"C\" { in player; hidden; }");
        Bench.same("take", none, bench.play("take all"));
        Bench.same("drop", none, bench.play("drop all"));
        Bench.same("no time, no it, no undo", "0 0 0", bench.house.told(7) + " " + bench.house.told(9) + " " + bench.house.told(10));
        Bench.same("no again", "0 There is nothing to repeat.\n", bench.play("g"));
        bench = Bench.playing("room r \"R\" { dark; } thing a \"A\" { in r; word aa; } thing b \"B\" { in player; word bb; supporter; } thing c \"C\" { in b; } on wait { set b light; }");
        Bench.same("take in the dark", none, bench.play("take all"));
        Bench.same("drop in the dark", "1 B: Dropped.\n", bench.play("drop all"));
        bench.house.undo();
        bench.play("z");
        Bench.same("take with LIGHT", "1 A: Taken.\n", bench.play("take all"));
    }

    private static void allOneByOne() {
        Bench.about("Term 4: take all, drop all: one by one, those whose holder is still the same then: NAME and : and 32, and it is done as if it were the noun, with rules");
        String story = R + "room s \"S\" {} thing a \"A^a\" { in r; } thing b \"B\" { in r; } thing c \"C\" { in r; } thing d \"D\" {} ";
        Bench.same("rules, done, and noun", "1 C: [6 0]B: [5 0]Taken.\nA\na: [4 0]Taken.\n", Bench.playing(story + "on take { say \"[\", noun, \" \", second, \"]\"; } on take c { done; }").play("take all"));
        Bench.same("one taken away", "1 C: Taken.\nA\na: Taken.\n", Bench.playing(story + "on take c { move b to s; }").play("take all"));
        Bench.same("one put in nothing", "1 C: Taken.\nA\na: Taken.\n", Bench.playing(story + "on take c { remove b; }").play("take all"));
        Bench.same("one that the player has already", "1 C: Taken.\nA\na: Taken.\n", Bench.playing(story + "on take c { move b to player; }").play("take all"));
        Bench.same("one taken away and brought back", "1 C: Taken.\nB: Taken.\nA\na: Taken.\n", Bench.playing(story + "on take c { move b to s; move b to r; }").play("take all"));
        Bench.same("one that comes anew", "1 C: Taken.\nB: Taken.\nA\na: Taken.\n", Bench.playing(story + "on take c { move d to r; }").play("take all"));
        Bench.same("hidden and fixed meanwhile", "1 C: Taken.\nB: Taken.\nA\na: That is fixed.\n", Bench.playing(story + "on take c { set b hidden; set a fixed; }").play("take all"));
        Bench.same("the player is elsewhere meanwhile", "1 C: Taken.\nB: Taken.\nA\na: Taken.\n", Bench.playing(story + "on take c { move player to s; }").play("take all"));
        Bench.same("it is dark meanwhile", "1 A: Taken.\nB: Taken.\n", Bench.playing("room r \"R\" { dark; } thing b \"B\" { in r; } thing a \"A\" { in r; light; } on take a { clear a light; }").play("take all"));
        Bench bench = Bench.playing(story + "on drop b { move player to s; } on drop c { move a to s; done; }");
        bench.play("take all");
        Bench.same("drop", "1 A\na: Dropped.\nB: Dropped.\nC: ", bench.play("drop all"));
        Bench.same("to where the player is then", "3 3 1", bench.house.holder(4) + " " + bench.house.holder(5) + " " + bench.house.holder(6));
        Bench.about("Term 4: take all, drop all: the noun of the latest one is it");
        bench = Bench.playing(story + "on take c { remove a; }");
        bench.play("take all");
        Bench.same("the latest that was done", 5, bench.house.told(9));
        bench = Bench.playing(story + "on take { done; }");
        bench.play("take all");
        Bench.same("with done, too", 4, bench.house.told(9));
    }

    private static void allIsOneTurn() {
        Bench.about("Term 4: take all, drop all: one time for all");
        String story = R + "thing a \"A\" { in r; } thing b \"B\" { in r; } thing c \"C\" { in r; } var n = 0; ";
        Bench bench = Bench.playing(story + "on take { n = n + 1; } each { say \"e\", noun; }");
        Bench.same("one each", "1 C: Taken.\nB: Taken.\nA: Taken.\ne3", bench.play("take all"));
        Bench.same("TURNS, undo, rules", "1 1 3", bench.house.told(7) + " " + bench.house.told(10) + " " + bench.house.value(0));
        bench.house.undo();
        Bench.same("undone at once", "2 2 2 0", bench.house.holder(3) + " " + bench.house.holder(4) + " " + bench.house.holder(5) + " " + bench.house.value(0));
        bench.play("take all");
        bench.play("drop all");
        Bench.same("again is of all", "0 There is nothing to do.\n", bench.play("g"));
        bench.play("take all");
        Bench.same("as many times", 3, bench.house.told(7));
        Bench.about("Term 4: take all, drop all: when it BREAKS, all of it is as before");
        bench = Bench.playing(story + "on take { n = n + 1; } on take a { say 1 / 0; }");
        Bench.same("the last one BREAKS", "2 [break 1]\n", bench.play("take all"));
        Bench.same("as before", "2 2 2 0 0 0 0", bench.house.holder(3) + " " + bench.house.holder(4) + " " + bench.house.holder(5) + " " + bench.house.value(0) + " "
                + bench.house.told(7) + " " + bench.house.told(9) + " " + bench.house.told(10));
        bench = Bench.playing(story + "each { say 1 / 0; }");
        Bench.same("time BREAKS", "2 [break 1]\n", bench.play("take all"));
        Bench.same("as before, too", "2 2 2", bench.house.holder(3) + " " + bench.house.holder(4) + " " + bench.house.holder(5));
        Bench.about("Term 4: take all, drop all: when the play ENDS, the others are not done");
        bench = Bench.playing(story + "on take b { lose; } each { say 1; }");
        Bench.same("OUT", "3 C: Taken.\nB: \n*** You have lost ***\n", bench.play("take all"));
        Bench.same("not done, no time", "2 2 1 0", bench.house.holder(3) + " " + bench.house.holder(4) + " " + bench.house.holder(5) + " " + bench.house.told(7));
    }

    private static void out() {
        Bench.about("Term 4: OUT has 3000 bytes at most; what is behind is lost");
        String story = R + "var n = 0; verb tell tell alone; verb more more alone; verb less less alone; verb name1 longer alone; "
                + "on tell { let i = 0; while i < n { say \"x\"; i = i + 1; } done; } on more { n = n + 1; } on less { n = n - 1; } "
                + "on name1 { let i = 0; while i < n { say \"x\"; i = i + 1; } say \"abcdef\", 1234, name r, name player; done; }";
        Bench bench = Bench.playing(story.replace("n = 0", "n = 2999"));
        Bench.same("2999", 2999, bench.play("tell").length() - 2);
        Bench.same("cut in a text", "1 " + "x".repeat(2999) + "a", bench.play("longer"));
        bench.play("more");
        Bench.same("3000", 3000, bench.play("tell").length() - 2);
        bench.play("more");
        Bench.same("3001", 3000, bench.play("tell").length() - 2);
        Bench.same("a number is lost", "1 " + "x".repeat(3000), bench.play("longer"));
        bench = Bench.playing(story.replace("n = 0", "n = 2992"));
        Bench.same("cut in a number", "1 " + "x".repeat(2992) + "abcdef12", bench.play("longer"));
        bench = Bench.playing(story.replace("n = 0", "n = 2989"));
        Bench.same("cut in what the player is called", "1 " + "x".repeat(2989) + "abcdef1234R", bench.play("longer"));
        bench = Bench.playing(story.replace("n = 0", "n = 2986"));
        Bench.same("and within it", "1 " + "x".repeat(2986) + "abcdef1234Ryou", bench.play("longer"));
        Bench.same("the play goes on", "1 ", bench.play("tell").substring(0, 2));
        Bench.about("Term 4: OUT of a turn that BREAKS behind 3000 bytes is [break n] alone");
        bench = Bench.playing(R + "on wait { let i = 0; while i < 4000 { say \"x\"; i = i + 1; } say 1 / 0; }");
        Bench.same("break", "2 [break 1]\n", bench.play("z"));
    }
}
