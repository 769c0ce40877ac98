/** Term 3, THE PLAY: its beginning, what is SEEN, LIGHT, the SCOPE, RULES, TIME, and how a play ENDS. */
public final class Term3PlayTest {
    private static final String R = "room r \"R\" {} ";

    public static void main(String[] args) {
        firstRoom();
        movedInOrder();
        atTheBeginning();
        lookWithoutRules();
        seen();
        seenBySupporterOrOpenContainer();
        light();
        scope();
        scopeInTheDark();
        rulesOfTheVerb();
        rulesThatFit();
        rulesOfTwo();
        doneInRules();
        doingOfToldVerbs();
        time();
        doneInEachs();
        winAndLose();
        storyIsOver();
        Bench.end();
    }

    private static String row(StoryHouse house, int holder) {
        StringBuilder text = new StringBuilder();
        for (int i = house.first(holder, false); i != 0; i = house.first(i, true)) {
            text.append(i).append(' ');
        }
        return text.toString();
    }

    private static void firstRoom() {
        Bench.about("Term 3: at the beginning the player is in the first room");
        Bench.same("the first item", 2, Bench.playing(R + "room s \"S\" {}").house.holder(1));
        Bench.same("behind things", 4, Bench.playing("thing a \"A\" {} thing b \"B\" { in s; } room r \"R\" {} room s \"S\" {}").house.holder(1));
        Bench bench = Bench.playing(R + "room s \"S\" {} on wait { move player to s; }");
        bench.play("z");
        bench.house.begin(1);
        Bench.same("again", 2, bench.house.holder(1));
    }

    private static void movedInOrder() {
        Bench.about("Term 3: each thing is moved where it is told to be, in the order of the SOURCE (things told nowhere are in nothing)");
        StoryHouse house = Bench.playing("thing c \"C\" { in player; } thing a \"A\" { in r; } thing b \"B\" {} " + R
                + "thing d \"D\" { in a; } thing e \"E\" { in r; } thing g \"G\" { in a; } thing h \"H\" { in player; } thing i \"I\" { in i2; } thing i2 \"J\" { in r; }").house;
        Bench.same("in the room", "11 7 3 1 ", row(house, 5));
        Bench.same("in a thing", "8 6 ", row(house, 3));
        Bench.same("in the player", "9 2 ", row(house, 1));
        Bench.same("in one that is told later", "10 ", row(house, 11));
        Bench bench = Bench.playing(R + "thing a \"A\" {} thing b \"B\" { in r; } thing c \"C\" { in b; } on wait { move b to a; move a to r; move c to a; }");
        bench.play("z");
        bench.house.begin(1);
        Bench.same("in nothing anew", "0 0 0 5 0 2 1", bench.house.holder(3) + " " + bench.house.first(3, false) + " " + bench.house.first(3, true) + " "
                + bench.house.first(4, false) + " " + bench.house.first(5, true) + " " + bench.house.holder(4) + " " + bench.house.first(4, true));
        Bench.same("in nothing", "0 0 0", house.holder(4) + " " + house.first(4, true) + " " + house.holder(5));
    }

    private static void atTheBeginning() {
        Bench.about("Term 3: at the beginning vars have their numbers, cells and TURNS are 0, it and again mean nothing, nothing can be undone");
        Bench bench = Bench.playing(R + "thing a \"A\" { in r; word aa; light; } var x = -5; var y = 32767; array t[2]; "
                + "each { x = x + 1; y = 0; t[0] = 5; t[1] = 6; set r open; clear a light; }");
        for (int i = 0; i < 2; i++) {
            Bench.same("numbers", "-5 32767 0 0 0 0 0 0", bench.house.value(0) + " " + bench.house.value(1) + " " + bench.house.cell(0, 0) + " "
                    + bench.house.cell(0, 1) + " " + bench.house.told(7) + " " + bench.house.told(8) + " " + bench.house.told(9) + " " + bench.house.told(10));
            Bench.same("attributes", "true false", bench.house.has(3, 3) + " " + bench.house.has(2, 4));
            Bench.same("it", "0 You see no such thing.\n", bench.play("x it"));
            Bench.same("again", "0 There is nothing to repeat.\n", bench.play("again"));
            Bench.same("undo", false, bench.house.undo());
            bench.playAll("take aa", "x it", "g");
            bench.house.begin(1);
        }
    }

    private static void lookWithoutRules() {
        Bench.about("Term 3: at the beginning a look is done, without rules, and takes no time");
        Bench bench = Bench.playing("room r \"R\" { text \"T.\"; } thing a \"A\" { in r; } on look { say 1; done; } each { say 2; }");
        Bench.same("OUT", "R\nT.\nThere is A here.\n", bench.out());
        Bench.same("TURNS", 0, bench.house.told(7));
        Bench.same("in the dark", "It is dark.\n", Bench.playing("room r \"R\" { dark; }").out());
    }

    private static void seen() {
        Bench.about("Term 3: a thing is SEEN if it is not hidden, and what it is in is the room where the player is, or the player");
        Bench bench = Bench.playing(R + "room s \"S\" {} thing a \"A\" { in r; word aa; } thing b \"B\" { in player; word bb; } thing c \"C\" { in s; word cc; } "
                + "thing d \"D\" { word dd; } thing e \"E\" { in r; word ee; hidden; } thing h \"H\" { in player; word hh; hidden; } verb swap swap alone; on swap { move player to s; } "
                + "verb show show alone; on show { clear e hidden; clear h hidden; }");
        String no = "0 You see no such thing.\n";
        String yes = "1 You see nothing special.\n";
        Bench.same("in the room", yes, bench.play("x aa"));
        Bench.same("in the player", yes, bench.play("x bb"));
        Bench.same("in another room", no, bench.play("x cc"));
        Bench.same("in nothing", no, bench.play("x dd"));
        Bench.same("hidden in the room", no, bench.play("x ee"));
        Bench.same("hidden in the player", no, bench.play("x hh"));
        Bench.same("the player", yes, bench.play("x me"));
        bench.play("show");
        Bench.same("hidden no more", yes, bench.play("x ee"));
        Bench.same("nor there", yes, bench.play("x hh"));
        bench.play("swap");
        Bench.same("the player is elsewhere", no, bench.play("x aa"));
        Bench.same("with what the player has", yes, bench.play("x bb"));
        Bench.same("there", yes, bench.play("x cc"));
    }

    private static void seenBySupporterOrOpenContainer() {
        Bench.about("Term 3: SEEN in a SEEN one that is a supporter, or a container that is open");
        String story = R + "thing a \"A\" { in %; word aa; # } thing b \"B\" { in a; word bb; ~ } thing c \"C\" { in b; word cc; }";
        String[] shows = {"supporter;", "container; open;", "supporter; container;", "supporter; open;", "supporter; container; open;"};
        String[] hides = {"", "container;", "open;", "light;", "fixed; open;", "supporter; hidden;", "container; open; hidden;"};
        String no = "0 You see no such thing.\n";
        String yes = "1 You see nothing special.\n";
        for (String where : new String[] {"r", "player"}) {
            for (String first : shows) {
                for (String second : shows) {
                    Bench bench = Bench.playing(story.replace("%", where).replace("#", first).replace("~", second));
                    Bench.same(where + " " + first + second, yes + yes, bench.play("x bb") + bench.play("x cc"));
                }
                for (String second : hides) {
                    Bench bench = Bench.playing(story.replace("%", where).replace("#", first).replace("~", second));
                    boolean hidden = second.contains("hidden");
                    Bench.same(where + " " + first + second, (hidden ? no : yes) + no, bench.play("x bb") + bench.play("x cc"));
                }
            }
            for (String first : hides) {
                Bench bench = Bench.playing(story.replace("%", where).replace("#", first).replace("~", "supporter;"));
                Bench.same(where + " " + first, no + no, bench.play("x bb") + bench.play("x cc"));
            }
        }
        Bench.about("Term 3: SEEN in a player who is hidden, in a room that is hidden");
        Bench bench = Bench.playing(R + "thing a \"A\" { in player; word aa; } thing b \"B\" { in r; word bb; } on wait { set player hidden; set r hidden; }");
        bench.play("z");
        Bench.same("all as before", yes + yes + yes, bench.play("x aa") + bench.play("x bb") + bench.play("x me"));
    }

    private static String lookOf(String items) {
        Bench bench = Bench.playing("room r \"R\" { dark; } room s \"S\" {} " + items);
        return bench.out().startsWith("R\n") ? "light" : bench.out();
    }

    private static void light() {
        Bench.about("Term 3: it is LIGHT if the room is not dark, or if something with the attribute light is SEEN");
        String dark = "It is dark.\n";
        Bench.same("nothing", dark, lookOf(""));
        Bench.same("a thing without light", dark, lookOf("thing a \"A\" { in r; }"));
        Bench.same("in the room", "light", lookOf("thing a \"A\" { in r; light; }"));
        Bench.same("in the player", "light", lookOf("thing a \"A\" { in player; light; }"));
        Bench.same("hidden", dark, lookOf("thing a \"A\" { in player; light; hidden; }"));
        Bench.same("elsewhere", dark, lookOf("thing a \"A\" { in s; light; }"));
        Bench.same("in nothing", dark, lookOf("thing a \"A\" { light; }"));
        Bench.same("in a closed container", dark, lookOf("thing b \"B\" { in r; container; } thing a \"A\" { in b; light; }"));
        Bench.same("in an open container", "light", lookOf("thing b \"B\" { in r; container; open; } thing a \"A\" { in b; light; }"));
        Bench.same("on a supporter", "light", lookOf("thing b \"B\" { in player; supporter; } thing a \"A\" { in b; light; }"));
        Bench.same("on a hidden supporter", dark, lookOf("thing b \"B\" { in r; supporter; hidden; } thing a \"A\" { in b; light; }"));
        Bench.same("a container that shines itself", "light", lookOf("thing b \"B\" { in r; container; light; }"));
        Bench.same("the last thing", "light", lookOf("thing b \"B\" { in r; } thing c \"C\" { in r; } thing a \"A\" { in r; light; }"));
        Bench bench = Bench.playing("room r \"R\" { dark; } on wait { set r light; } on look { clear r light; set player light; }");
        bench.play("z");
        Bench.same("the room's attribute light is not SEEN", "1 Time passes.\n", bench.play("z"));
        bench.house.begin(1);
        bench.play("z");
        bench.play("i");
        Bench.same("the player's is", "1 R\n", bench.play("look"));
        Bench.same("a room that is not dark", "S\n", Bench.playing("room s \"S\" {}").out());
    }

    private static void scope() {
        Bench.about("Term 3: the SCOPE: the player, and what is SEEN, when it is LIGHT");
        Bench bench = Bench.playing("room r \"R\" { dark; } thing a \"A\" { in r; word aa; } thing lamp \"L\" { in r; word lamp; light; } on wait { clear lamp light; }");
        Bench.same("by a light in the room", "1 You see nothing special.\n", bench.play("x aa"));
        Bench.same("the light itself", "1 You see nothing special.\n", bench.play("x lamp"));
        bench.play("z");
        Bench.same("no light any more", "0 You see no such thing.\n", bench.play("x aa"));
        Bench.same("nor the lamp", "0 You see no such thing.\n", bench.play("x lamp"));
    }

    private static void scopeInTheDark() {
        Bench.about("Term 3: otherwise the SCOPE is the player and what is SEEN by way of the player");
        Bench bench = Bench.playing("room r \"R\" { dark; } thing a \"A\" { in r; word aa; } thing b \"B\" { in player; word bb; supporter; } thing c \"C\" { in b; word cc; container; open; } "
                + "thing d \"D\" { in c; word dd; } thing e \"E\" { in a; word ee; } thing h \"H\" { in player; word hh; hidden; }");
        Bench.same("the player", "1 You see nothing special.\n", bench.play("x me"));
        Bench.same("what the player has", "1 You see nothing special.\n", bench.play("x bb"));
        Bench.same("on it", "1 You see nothing special.\n", bench.play("x cc"));
        Bench.same("in that", "1 You see nothing special.\n", bench.play("x dd"));
        Bench.same("in the room", "0 You see no such thing.\n", bench.play("x aa"));
        Bench.same("hidden", "0 You see no such thing.\n", bench.play("x hh"));
        bench.play("close cc");
        Bench.same("in what is closed now", "0 You see no such thing.\n", bench.play("x dd"));
        Bench.same("taken from there", "1 Taken.\n", bench.play("take cc"));
        Bench.same("dropped into the dark", "1 Dropped.\n", bench.play("drop cc"));
        Bench.same("gone", "0 You see no such thing.\n", bench.play("take cc"));
    }

    private static void rulesOfTheVerb() {
        Bench.about("Term 3: RULES: the ons of the verb, in order, one after the other, then the DOING");
        Bench bench = Bench.playing(R + "thing a \"A\" { in r; word aa; } on take { say 1; } on drop { say 2; } on take { say 3; } on get2 { say 4; } verb get2 get, grab one; on take { say 5; }");
        Bench.same("the verb's alone", "1 135Taken.\n", bench.play("take aa"));
        Bench.same("another verb", "1 2Dropped.\n", bench.play("drop aa"));
        Bench.same("a told verb", "1 4Nothing happens.\n", bench.play("grab aa"));
        Bench.same("the first verb that fits", "1 135Taken.\n", bench.play("get aa"));
    }

    private static void rulesThatFit() {
        Bench.about("Term 3: RULES all of whose WHATs fit (those without any always do): any, or the noun itself");
        Bench bench = Bench.playing(R + "thing a \"A\" { in r; word aa; } thing b \"B\" { in r; word bb; } on examine { say 1; } on examine any { say 2; } on examine a { say 3; } on examine b { say 4; } "
                + "on examine player { say 5; } on go { say 1; } on go any { say 2; } on go north { say 3; } on go south { say 4; } on look { say 6; }");
        Bench.same("a", "1 123You see nothing special.\n", bench.play("x aa"));
        Bench.same("b", "1 124You see nothing special.\n", bench.play("x bb"));
        Bench.same("the player", "1 125You see nothing special.\n", bench.play("x me"));
        Bench.same("north", "1 123You can not go there.\n", bench.play("n"));
        Bench.same("south", "1 124You can not go there.\n", bench.play("go s"));
        Bench.same("up", "1 12You can not go there.\n", bench.play("u"));
        Bench.same("without nouns", "1 6R\nThere is B here.\nThere is A here.\n", bench.play("l"));
        Bench.about("Term 3: a DIRECTION as WHAT is no OBJECT of that number");
        bench = Bench.playing("thing a \"A\" { in r; word aa; } " + R + "on go south { say 1; } on examine a { say 2; }");
        Bench.same("thing 2", "1 2You see nothing special.\n", bench.play("x aa"));
        Bench.same("south is 2", "1 1You can not go there.\n", bench.play("s"));
    }

    private static void rulesOfTwo() {
        Bench.about("Term 3: RULES: the second WHAT likewise with second");
        Bench bench = Bench.playing(R + "thing a \"A\" { in r; word aa; } thing b \"B\" { in r; word bb; } verb tie tie two with; on tie { say 1; } on tie a { say 2; } on tie any b { say 3; } "
                + "on tie a any { say 4; } on tie b a { say 5; } on tie any any { say 6; } on tie player b { say 7; } on tie a player { say 8; } on tie b { say 9; done; }");
        String end = "Nothing happens.\n";
        Bench.same("a b", "1 12346" + end, bench.play("tie aa with bb"));
        Bench.same("b a", "1 1569", bench.play("tie bb with aa"));
        Bench.same("a a", "1 1246" + end, bench.play("tie aa with aa"));
        Bench.same("b b", "1 1369", bench.play("tie bb with bb"));
        Bench.same("player b", "1 1367" + end, bench.play("tie me with bb"));
        Bench.same("a player", "1 12468" + end, bench.play("tie aa with me"));
    }

    private static void doneInRules() {
        Bench.about("Term 3: done ends that on, the others, and the doing, but not time");
        Bench bench = Bench.playing(R + "thing a \"A\" { in r; word aa; } var n = 0; on take { say 1; if n == 1 { while 1 { done; } } say 2; } on take { say 3; if n == 2 { done; } } on wait { n = n + 1; } each { say 4; }");
        Bench.same("none done", "1 123Taken.\n4", bench.play("take aa"));
        bench.playAll("drop aa", "z");
        Bench.same("the first done", "1 14", bench.play("take aa"));
        Bench.same("not taken", 2, bench.house.holder(3));
        Bench.same("TURNS", 4, bench.house.told(7));
        bench.play("z");
        Bench.same("the second done", "1 1234", bench.play("take aa"));
        Bench.same("not taken either", 2, bench.house.holder(3));
        Bench.about("Term 3: an on's end without done goes on with the others");
        Bench.same("an empty on", "1 5Time passes.\n", Bench.playing(R + "on wait {} on wait { say 5; }").play("z"));
    }

    private static void doingOfToldVerbs() {
        Bench.about("Term 3: of told verbs: Nothing happens.");
        Bench bench = Bench.playing(R + "verb v v alone; verb w v one; verb u v two v;");
        Bench.same("alone", "1 Nothing happens.\n", bench.play("v"));
        Bench.same("one", "1 Nothing happens.\n", bench.play("v me"));
        Bench.same("TURNS", 2, bench.house.told(7));
        Bench.same("not of one that is told of old", "1 Time passes.\n", bench.play("z"));
        Bench.same("two, behind one", "0 You see no such thing.\n", bench.play("v me v me"));
    }

    private static void time() {
        Bench.about("Term 3: TIME: TURNS is 1 more, then all eachs go, in order");
        Bench bench = Bench.playing(R + "var n = 0; each { say 1; n = n + 1; } each { say 2, n; } each { say 3; }");
        Bench.same("the first turn", "1 Time passes.\n1213", bench.play("z"));
        Bench.same("TURNS", 1, bench.house.told(7));
        Bench.same("the second turn", "1 Time passes.\n1223", bench.play("z"));
        Bench.same("TURNS then", 2, bench.house.told(7));
        for (String refused : new String[] {"", "dance", "go", "x", "x zz", "z z", "take all"}) {
            Bench.same("what is refused takes no time: " + refused, "0", bench.play(refused).substring(0, 1));
            Bench.same("TURNS behind " + refused, 2, bench.house.told(7));
            Bench.same("var behind " + refused, 2, bench.house.value(0));
        }
        Bench.same("a command that can not be done takes time", "1 You can not go there.\n1233", bench.play("n"));
        Bench.same("TURNS at last", 3, bench.house.told(7));
    }

    private static void doneInEachs() {
        Bench.about("Term 3: done ends that each alone");
        Bench bench = Bench.playing(R + "each { say 1; done; say 2; } each { say 3; if 1 { while 1 { done; } } say 4; } each { say 5; }");
        Bench.same("all others go", "1 Time passes.\n135", bench.play("z"));
    }

    private static void winAndLose() {
        Bench.about("Term 3: win and lose end all that is being done, with a new line before and behind; the play has ENDED: 1, 2");
        String story = R + "var n = 0; def f() { #; say 1; } verb va a alone; verb vb b alone; verb vc c alone; on va { say 2; #; say 3; } on va { say 4; } "
                + "on vb { say 5, f(), 6; } on vc { while 1 { n = 1; done; } } each { say 7; if n { #; } say 8; } each { say 9; }";
        for (String way : new String[] {"win", "lose"}) {
            String text = way.equals("win") ? "\n*** You have won ***\n" : "\n*** You have lost ***\n";
            int ended = way.equals("win") ? 1 : 2;
            Bench bench = Bench.playing(story.replace("#", way));
            Bench.same(way + " in an on", "3 2" + text, bench.play("a"));
            Bench.same(way + " has ENDED", ended, bench.house.told(8));
            Bench.same("no time", 0, bench.house.told(7));
            bench.house.begin(1);
            Bench.same("it has not ENDED", 0, bench.house.told(8));
            Bench.same(way + " in a def", "3 5" + text, bench.play("b"));
            Bench.same(way + " has ENDED, too", ended, bench.house.told(8));
            bench.house.begin(1);
            Bench.same(way + " in an each", "3 7" + text, bench.play("c"));
            Bench.same(way + " has ENDED as well", ended, bench.house.told(8));
            Bench.same("time went", 1, bench.house.told(7));
        }
    }

    private static void storyIsOver() {
        Bench.about("Term 3: nothing more is understood then: LINES are answered with The story is over.");
        Bench bench = Bench.playing(R + "thing a \"A\" { in r; word aa; } verb v v alone; on v { win; } each { say 5; }");
        bench.play("x aa");
        bench.play("v");
        for (String line : new String[] {"z", "", "g", "dance", "take all", "go", "x it", "v"}) {
            Bench.same("[" + line + "]", "3 The story is over.\n", bench.play(line));
        }
        Bench.same("nothing is done", "1 1 3 2", bench.house.told(7) + " " + bench.house.told(8) + " " + bench.house.told(9) + " " + bench.house.told(10));
        bench.house.undo();
        Bench.same("it goes on behind undo", "1 Time passes.\n5", bench.play("z"));
    }
}
