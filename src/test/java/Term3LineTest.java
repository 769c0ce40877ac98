/** Term 3, a LINE: its bytes and TERMS, again, DIRECTIONS, the VERBS and their FORMS, and NOUNS. */
public final class Term3LineTest {
    private static final String R = "room r \"R\" { exit north r; } ";
    private static final String NOT = "0 I did not get that.\n";
    private static final String HOW = "0 I do not know how to do that.\n";
    private static final String NO_SUCH = "0 You see no such thing.\n";
    private static final String WHICH = "0 Which one do you mean?\n";
    private static final String SPECIAL = "1 You see nothing special.\n";

    public static void main(String[] args) {
        bytesOfALine();
        capitals();
        terms();
        nineLetters();
        figures();
        twelveTerms();
        noTerm();
        again();
        againIsOneTerm();
        directions();
        goOtherwise();
        verbsInOrder();
        ownWords();
        formAlone();
        formOne();
        formTwo();
        firstPlaceOfTheForm();
        articles();
        it();
        itBehindTwoNouns();
        all();
        each();
        noneOrMoreThanOne();
        twoNouns();
        refusedTakesNoTime();
        Bench.end();
    }

    private static void line(String items, String line, String due) {
        Bench.same("[" + line + "]", due, Bench.playing(R + items).play(line));
    }

    private static void bytesOfALine() {
        Bench.about("Term 3: a LINE has up to 120 bytes");
        line("", " ".repeat(119) + "z", "1 Time passes.\n");
        line("", " ".repeat(120) + "z", "0 I beg your pardon?\n");
        line("", " ".repeat(119) + "z z", "1 Time passes.\n");
        line("", "z" + " ".repeat(118) + "z", NOT);
        line("", "z" + " ".repeat(119) + "z", "1 Time passes.\n");
        line("", " ".repeat(116) + "waitress", "1 Time passes.\n");
        line("", " ".repeat(115) + "waitress", HOW);
        line("", "z" + ".".repeat(2000), "1 Time passes.\n");
    }

    private static void capitals() {
        Bench.about("Term 3: capital letters are small ones");
        line("", "WAIT", "1 Time passes.\n");
        line("", "zZ", HOW);
        line("thing a \"A\" { in r; word abcxyz; }", "EXAmine THE ABCXYZ", SPECIAL);
        line("", "GO NORTH", "1 R\n");
    }

    private static void terms() {
        Bench.about("Term 3: TERMS are letters on end, all else parts them");
        for (char c = 32; c < 127; c++) {
            boolean letter = c >= 'a' && c <= 'z' || c >= 'A' && c <= 'Z';
            line("", "x" + c + "me", letter ? HOW : SPECIAL);
            line("", c + "z" + c, letter ? HOW : "1 Time passes.\n");
        }
        line("", "x\nme\n", SPECIAL);
        line("", "\n\nx\n\nme", SPECIAL);
        line("", "x2me", SPECIAL);
    }

    private static void nineLetters() {
        Bench.about("Term 3: of a TERM nine letters count (so of the SOURCE's words that are compared with it, also of a FORM's NAME)");
        String items = "thing a \"A\" { in r; word abcdefghijkl; } thing b \"B\" { in r; word abcdefgh; } verb v verylongverb, verylong one; verb tie tie two betweenthem; ";
        line(items, "x abcdefghi", SPECIAL);
        line(items, "x abcdefghijkl", SPECIAL);
        line(items, "x abcdefghixxxxxxxxxxxxxxxxx", SPECIAL);
        line(items, "x abcdefghx", NO_SUCH);
        line(items, "x abcdefg", NO_SUCH);
        line(items, "x abcdefgh", SPECIAL);
        line(items, "verylongv me", "1 Nothing happens.\n");
        line(items, "verylongverbose me", "1 Nothing happens.\n");
        line(items, "verylongx me", HOW);
        line(items, "tie me betweenthese me", "1 Nothing happens.\n");
        line(items, "tie me betweenth me", "1 Nothing happens.\n");
        line(items, "tie me betweent me", NOT);
        line(items, "inventoryless", "1 You carry nothing.\n");
        line(items, "inventor", HOW);
        Bench.about("Term 3: two words of the SOURCE that are one in nine letters");
        line("thing a \"A\" { in r; word abcdefghija; } thing b \"B\" { in r; word abcdefghijb; }", "x abcdefghija", WHICH);
        line("verb v verylongvxa alone; verb w verylongvxb alone; on v { say 1; } on w { say 2; }", "verylongvxb", "1 1Nothing happens.\n");
    }

    private static void figures() {
        Bench.about("Term 3: figures in the SOURCE's words count like letters, so that they fit none");
        String items = "thing a \"A\" { in r; word lamp2, a2b, abcdefghi2, abcdefgh2k; } verb v v2v alone; verb w ww two in2; ";
        line(items, "x lamp", NO_SUCH);
        line(items, "x lamp2", NO_SUCH);
        line(items, "x a b", NO_SUCH);
        line(items, "x ab", NO_SUCH);
        line(items, "x abcdefghi", SPECIAL);
        line(items, "x abcdefgh", NO_SUCH);
        line(items, "v2v", HOW);
        line(items, "vv", HOW);
        line(items, "ww me in me", NOT);
    }

    private static void twelveTerms() {
        Bench.about("Term 3: of more than 12 TERMS the first 12 count");
        String items = "thing a \"A\" { in r; word aa; } verb tie tie two with; ";
        line(items, "x" + " aa".repeat(11), SPECIAL);
        line(items, "x" + " aa".repeat(10) + " zz", NO_SUCH);
        line(items, "x" + " aa".repeat(11) + " zz", SPECIAL);
        line(items, "x" + " aa".repeat(11) + " zz zz", SPECIAL);
        line(items, "tie" + " aa".repeat(9) + " with aa", "1 Nothing happens.\n");
        line(items, "tie" + " aa".repeat(9) + " with aa zz", "1 Nothing happens.\n");
        line(items, "tie" + " aa".repeat(10) + " with aa", NOT);
        line(items, "tie" + " aa".repeat(11) + " with aa", NOT);
    }

    private static void noTerm() {
        Bench.about("Term 3: no TERM: I beg your pardon?");
        for (String none : new String[] {"", " ", "12", "?!", "\n", ".,;"}) {
            line("", none, "0 I beg your pardon?\n");
        }
    }

    private static void again() {
        Bench.about("Term 3: the one TERM again, or g: the latest LINE that was a command is meant again; There is nothing to repeat. if none was");
        Bench bench = Bench.playing(R + "thing a \"A\" { in r; word aa; } thing b \"B\" { in r; word bb; } verb v v alone; on v { say noun / 0; }");
        Bench.same("none was", "0 There is nothing to repeat.\n", bench.play("again"));
        Bench.same("none was, by g", "0 There is nothing to repeat.\n", bench.play("g"));
        bench.playAll("dance", "x", "x zz", "take", "");
        Bench.same("what was refused", "0 There is nothing to repeat.\n", bench.play("g"));
        bench.play("v");
        Bench.same("what BREAKS", "0 There is nothing to repeat.\n", bench.play("g"));
        bench.play("take aa");
        Bench.same("the latest", "1 You have that.\n", bench.play("g"));
        Bench.same("once more", "1 You have that.\n", bench.play("AGAIN."));
        bench.playAll("dance", "", "x zz", "v");
        Bench.same("the latest that was a command", "1 You have that.\n", bench.play("g"));
        bench.play("drop aa");
        Bench.same("another one", "1 You do not have that.\n", bench.play("again"));
        bench.playAll("x bb", "take it");
        Bench.same("the LINE is meant again, with what it means now", "1 You have that.\n", bench.play("g"));
        bench.play("x me");
        bench.play("x it");
        bench.play("x aa");
        Bench.same("not the verb and noun of old", "1 Taken.\n", bench.playAll("take it"));
        bench.play("n");
        Bench.same("a DIRECTION", "1 R\n", bench.play("g").substring(0, 4));
        bench.play("drop aa");
        bench.play("take all");
        Bench.same("take all, refused now", "0 There is nothing to do.\n", bench.play("g"));
        bench.play("drop aa");
        Bench.same("drop", "1 You do not have that.\n", bench.play("g"));
        Bench.about("Term 3: a LINE of 120 bytes is meant again as it was");
        Bench.same("at its end", "1 Taken.\n", bench.play("take" + " ".repeat(114) + "aa"));
        Bench.same("again", "1 You have that.\n", bench.play("g"));
    }

    private static void againIsOneTerm() {
        Bench.about("Term 3: again and g are the one TERM");
        line("", "again again", HOW);
        line("", "g g", HOW);
        line("", "again z", HOW);
        line("", "agai", HOW);
        line("", "againn", HOW);
        line("verb v g, again alone;", "g", "0 There is nothing to repeat.\n");
        line("verb v g, again one;", "g me", "1 Nothing happens.\n");
        line("verb v g, again one;", "again me", "1 Nothing happens.\n");
    }

    private static void directions() {
        Bench.about("Term 3: a DIRECTION, or its first letter, alone, or behind go: the verb go");
        String story = "on go { say noun; done; } verb v n, nn, s one; verb w walk, u alone; ";
        String[] ways = {"north", "south", "east", "west", "up", "down"};
        for (int i = 0; i < 6; i++) {
            for (String way : new String[] {ways[i], ways[i].substring(0, 1)}) {
                line(story, way, "1 " + (i + 1));
                line(story, "go " + way, "1 " + (i + 1));
                line(story, way.toUpperCase() + "!", "1 " + (i + 1));
            }
        }
        line(story, "no", HOW);
        line(story, "nort", HOW);
        line(story, "norths", HOW);
        line(story, "n south", NO_SUCH);
        line(story, "n me", "1 Nothing happens.\n");
        line(story, "s me", "1 Nothing happens.\n");
        line(story, "north me", HOW);
        line(story, "u n", NOT);
        line(story, "up n", HOW);
        line(story, "the north", HOW);
        line(story, "walk n", NOT);
    }

    private static void goOtherwise() {
        Bench.about("Term 3: the TERM go otherwise: Where do you want to go?");
        String where = "0 Where do you want to go?\n";
        for (String line : new String[] {"go", "go me", "go go", "go the north", "go north north", "go n s", "go again", "go nort", "GO 1"}) {
            line("verb v go alone; verb w go one; ", line, where);
        }
        line("", "goes", HOW);
        line("verb v walk, go one;", "walk me", "1 Nothing happens.\n");
        line("thing a \"A\" { in r; word go; }", "x go", SPECIAL);
    }

    private static void verbsInOrder() {
        Bench.about("Term 3: of the VERBS that have the first TERM as a word, in their order, the first that fits");
        String items = "verb va v, zz alone; verb vb v one; verb vc v two at; verb vd v, u alone; verb ve v, u one; "
                + "on va { say 1; } on vb { say 2; } on vc { say 3; } on vd { say 4; } on ve { say 5; } ";
        String end = "Nothing happens.\n";
        line(items, "v", "1 1" + end);
        line(items, "v me", "1 2" + end);
        line(items, "v me at me", NO_SUCH);
        line(items, "zz", "1 1" + end);
        line(items, "zz me", NOT);
        line(items, "u me", "1 5" + end);
        line(items, "vv", HOW);
        line("verb va take, wait, look alone; verb vb wait, look one; on va { say 1; } on vb { say 2; } ", "take", "1 1" + end);
        line("verb va take, wait, look alone; verb vb wait, look one; on va { say 1; } on vb { say 2; } ", "wait", "1 Time passes.\n");
        line("verb va take, wait, look alone; verb vb wait, look one; on va { say 1; } on vb { say 2; } ", "wait me", "1 2" + end);
        line("verb vc v two at; verb vb v one; on vb { say 2; } on vc { say 3; } ", "v me at me", "1 3" + end);
        line("verb vc v two at; verb vb v one; on vb { say 2; } on vc { say 3; } ", "v me", "1 2" + end);
        Bench.about("Term 3: none has the TERM; none fits");
        line("", "dance", HOW);
        line("", "me", HOW);
        line("", "in", HOW);
        line("", "look me", NOT);
        line("", "take", NOT);
        line("", "put me", NOT);
    }

    private static void ownWords() {
        Bench.about("Term 3: words: look l, inventory i, wait z, take get, drop, examine x, open, close, put in, put on");
        String items = "thing a \"A\" { in r; word aa; } thing b \"B\" { in r; word bb; container; open; supporter; } ";
        for (String word : new String[] {"look", "l"}) {
            line(items, word, "1 R\nThere is B here.\nThere is A here.\n");
        }
        for (String word : new String[] {"inventory", "i"}) {
            line(items, word, "1 You carry nothing.\n");
        }
        for (String word : new String[] {"wait", "z"}) {
            line(items, word, "1 Time passes.\n");
        }
        for (String word : new String[] {"take", "get"}) {
            line(items, word + " aa", "1 Taken.\n");
        }
        line(items, "drop aa", "1 You do not have that.\n");
        for (String word : new String[] {"examine", "x"}) {
            line(items, word + " aa", SPECIAL);
        }
        line(items, "open bb", "1 That is open.\n");
        line(items, "close bb", "1 Closed.\n");
        line(items, "put aa in bb", "1 You do not have that.\n");
        line(items, "put aa on bb", "1 You do not have that.\n");
        for (String none : new String[] {"putin", "puton", "putin aa in bb", "d2", "e2", "t aa", "o bb", "c bb", "inv", "exa aa", "insert aa in bb"}) {
            line(items, none, none.endsWith("2") ? "1 You can not go there.\n" : HOW);
        }
    }

    private static void formAlone() {
        Bench.about("Term 3: alone, with no TERM behind");
        line("verb v v alone;", "v", "1 Nothing happens.\n");
        line("verb v v alone;", "v v", NOT);
        line("verb v v alone;", "v the", NOT);
        line("verb v v alone;", "v 12", "1 Nothing happens.\n");
    }

    private static void formOne() {
        Bench.about("Term 3: one, with some behind");
        line("verb v v one;", "v", NOT);
        line("verb v v one;", "v 12", NOT);
        line("verb v v one;", "v me", "1 Nothing happens.\n");
        line("verb v v one;", "v me me me", "1 Nothing happens.\n");
        line("verb v v one;", "v v", NO_SUCH);
    }

    private static void formTwo() {
        Bench.about("Term 3: two, with some behind, then its NAME as a TERM, and some behind that");
        String items = "verb v v two at; ";
        line(items, "v me at me", "1 Nothing happens.\n");
        line(items, "v me me at me me", "1 Nothing happens.\n");
        for (String line : new String[] {"v", "v at", "v me", "v me me", "v at me", "v me at", "v at at", "v me in me", "v me att me"}) {
            line(items, line, NOT);
        }
        line(items, "v at at at", NO_SUCH);
        line("thing a \"A\" { in r; word at; } " + items, "v at at at", "1 Nothing happens.\n");
        line("thing a \"A\" { in r; word v, at; } verb v v two v;", "v v v v", "1 Nothing happens.\n");
    }

    private static void firstPlaceOfTheForm() {
        Bench.about("Term 3: two: the first such place");
        String items = "thing a \"A\" { in r; word aa, at; } thing b \"B\" { in r; word bb; } verb v v two at; on v { say noun, second; done; } ";
        line(items, "v aa at bb", "1 34");
        line(items, "v bb at aa at", "1 43");
        line(items, "v aa at aa at aa", "1 33");
        line(items, "v bb at bb at aa", NO_SUCH);
        line(items, "v at at bb", "1 34");
        line(items, "v at aa at bb", "1 34");
        line(items, "v at at at", "1 33");
        line(items, "v at at at at", "1 33");
        line(items, "v aa at at", "1 33");
        line(items, "v aa at the", NO_SUCH);
    }

    private static void articles() {
        Bench.about("Term 3: a NOUN: TERMS, a first the, a or an is left out (if more is behind it)");
        String items = "thing a \"A\" { in r; word aa; } thing b \"B\" { in r; word the, bb; } thing c \"C\" { in r; word an, a, cc; } verb v v two at; on v { say noun, second; done; } ";
        for (String article : new String[] {"the ", "a ", "an ", ""}) {
            line(items, "v " + article + "aa at " + article + "aa", "1 33");
            line(items, "x " + article + "zz", NO_SUCH);
        }
        line(items, "v the at a", "1 45");
        line(items, "v an at the", "1 54");
        line(items, "v the the at the the", "1 44");
        line(items, "v the a at a an", "1 55");
        line(items, "x the the aa", NO_SUCH);
        line(items, "v the the bb at an bb", "1 44");
        line(items, "x aa the", NO_SUCH);
        line(items, "v bb the at cc a", "1 45");
        line("", "x the", NO_SUCH);
        line("", "x a", NO_SUCH);
        line("", "x the me", SPECIAL);
        Bench.about("Term 3: an article is left out also before it and all");
        Bench bench = Bench.playing(R + items);
        bench.play("x aa");
        Bench.same("the it", "1 33", bench.play("v the it at an it"));
        Bench.same("the all", "1 C: Taken.\nB: Taken.\nA: Taken.\n", bench.play("take the all"));
        Bench.same("a all", "1 A: Dropped.\nB: Dropped.\nC: Dropped.\n", bench.play("drop a all"));
        Bench.same("the the all", NO_SUCH, bench.play("take the the all"));
        Bench.same("the the it", NO_SUCH, bench.play("x the the it"));
    }

    private static void it() {
        Bench.about("Term 3: the one TERM it: the latest NOUN of a command, if there is one, and it is in SCOPE (otherwise You see no such thing., also if a thing has that word)");
        String items = "room s \"S\" { exit up r; } thing a \"A\" { in r; word aa; } thing b \"B\" { in r; word bb, it; } verb hide hide one; on hide { set noun hidden; } verb gone gone one; "
                + "on gone { remove noun; } verb hum hum alone; verb out1 leave alone; on out1 { move player to s; } verb dig dig one; on dig { say 1 / 0; } ";
        Bench bench = Bench.playing(R + items);
        Bench.same("no NOUN yet", NO_SUCH, bench.play("x it"));
        bench.play("x zz");
        Bench.same("nor by a refused one", NO_SUCH, bench.play("x it"));
        bench.play("x aa");
        Bench.same("the latest", 4, bench.house.told(9));
        Bench.same("take it", "1 Taken.\n", bench.play("take it"));
        bench.playAll("hum", "n", "dance", "x zz");
        Bench.same("still", 4, bench.house.told(9));
        Bench.same("still it", "1 Dropped.\n", bench.play("drop it"));
        bench.play("dig bb");
        Bench.same("not by what BREAKS", 4, bench.house.told(9));
        bench.play("hide it");
        Bench.same("hidden", NO_SUCH, bench.play("x it"));
        Bench.same("but it is it", 4, bench.house.told(9));
        bench.play("gone bb");
        Bench.same("in nothing", NO_SUCH, bench.play("x it"));
        bench = Bench.playing(R + items);
        bench.playAll("x aa", "leave");
        Bench.same("left behind", NO_SUCH, bench.play("x it"));
        bench.play("up");
        Bench.same("seen again", SPECIAL, bench.play("x it"));
        bench.play("x me");
        Bench.same("the player", 1, bench.house.told(9));
        Bench.same("the player is in SCOPE", SPECIAL, bench.play("x it"));
        Bench.about("Term 3: it is the one TERM alone");
        Bench.same("with a word that the thing has", SPECIAL, bench.play("x bb it"));
        Bench.same("that was", 5, bench.house.told(9));
        Bench.same("with one that it has not", NO_SUCH, bench.play("x aa it"));
        Bench.same("twice", SPECIAL, bench.play("x it it"));
    }

    private static void itBehindTwoNouns() {
        Bench.about("Term 3: with the first of two, that is it from now on");
        Bench bench = Bench.playing(R + "thing a \"A\" { in r; word aa; } thing b \"B\" { in r; word bb; } thing c \"C\" { in r; word cc; } verb v v two at; on v { say noun, second; done; }");
        bench.play("v aa at bb");
        Bench.same("the first", 3, bench.house.told(9));
        Bench.same("it as the second is the one before", "1 53", bench.play("v cc at it"));
        Bench.same("then", 5, bench.house.told(9));
        Bench.same("it as the first", "1 54", bench.play("v it at bb"));
        Bench.same("it as both", "1 55", bench.play("v it at it"));
        bench.play("v bb at zz");
        Bench.same("refused at the second", 5, bench.house.told(9));
        bench.play("take all");
        Bench.same("the latest of take all", 3, bench.house.told(9));
    }

    private static void all() {
        Bench.about("Term 3: the one TERM all, for take and drop");
        String items = "thing a \"A\" { in r; word aa; } thing b \"B\" { in player; word bb; container; open; } verb v v, grab one; verb w w two at; ";
        line(items, "take all", "1 A: Taken.\n");
        line(items, "get all", "1 A: Taken.\n");
        line(items, "drop all", "1 B: Dropped.\n");
        for (String other : new String[] {"take all aa", "take aa all", "take all all", "drop all all", "x all", "grab all", "w all at all", "w me at all",
            "put all in bb", "put all on bb", "put bb in all", "open all", "take the the all"}) {
            line(items, other, NO_SUCH);
        }
    }

    private static void each() {
        Bench.about("Term 3: otherwise all things in SCOPE of which each TERM is a word (the player has the word me)");
        String items = "thing a \"A\" { in r; word red, box, big; } thing b \"B\" { in r; word red, ball; } thing c \"C\" { in r; } on examine { say noun; done; } room s \"S\" {} thing d \"D\" { in s; word ball; } ";
        line(items, "x box", "1 3");
        line(items, "x red box", "1 3");
        line(items, "x box red", "1 3");
        line(items, "x big red box", "1 3");
        line(items, "x red red ball red", "1 4");
        line(items, "x ball", "1 4");
        line(items, "x red big ball", NO_SUCH);
        line(items, "x box zz", NO_SUCH);
        line(items, "x zz box", NO_SUCH);
        line(items, "x me", "1 1");
        line(items, "x me me", "1 1");
        line(items, "x me box", NO_SUCH);
        line(items, "x yourself", NO_SUCH);
        line(items, "x r", NO_SUCH);
        line(items, "x c", NO_SUCH);
        line("thing a \"A\" { in r; word me; } ", "x me", WHICH);
    }

    private static void noneOrMoreThanOne() {
        Bench.about("Term 3: none: You see no such thing. More than one: Which one do you mean?");
        String items = "thing a \"A\" { in r; word red; } thing b \"B\" { in player; word red; } thing c \"C\" { in r; word red, cc; hidden; } thing d \"D\" { word blue; } thing e \"E\" { in r; word blue; } ";
        line(items, "x red", WHICH);
        line(items, "drop red", WHICH);
        line(items, "x blue", SPECIAL);
        line(items, "x cc", NO_SUCH);
        Bench bench = Bench.playing(R + items);
        bench.play("take all");
        Bench.same("both in the player", WHICH, bench.play("x red"));
    }

    private static void twoNouns() {
        Bench.about("Term 3: of two NOUNS the first one is looked at first");
        String items = "thing a \"A\" { in r; word red, aa; } thing b \"B\" { in r; word red; } verb v v two at; ";
        line(items, "v zz at red", NO_SUCH);
        line(items, "v red at zz", WHICH);
        line(items, "v aa at zz", NO_SUCH);
        line(items, "v aa at red", WHICH);
        line(items, "v it at red", NO_SUCH);
        line(items, "v aa at it", NO_SUCH);
        line(items, "v aa at aa", "1 Nothing happens.\n");
    }

    private static void refusedTakesNoTime() {
        Bench.about("Term 3: what is refused takes no time: nothing else is done");
        Bench bench = Bench.playing(R + "thing a \"A\" { in r; word aa, red; } thing b \"B\" { in r; word red; } var n = 0; on examine { n = 9; } each { n = n + 1; }");
        bench.play("take aa");
        for (String line : new String[] {"", "dance", "go", "go me", "x", "z z", "x zz", "x red", "put aa in zz", "put zz in aa", "put red on aa", "x the", "n n"}) {
            Bench.same("[" + line + "]", '0', bench.play(line).charAt(0));
            Bench.same("state behind [" + line + "]", "1 0 3 1 1", bench.house.told(7) + " " + bench.house.told(8) + " " + bench.house.told(9) + " "
                    + bench.house.told(10) + " " + bench.house.value(0));
        }
        Bench.same("again", "1 You have that.\n", bench.play("g"));
    }
}
