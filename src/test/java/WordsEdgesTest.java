/** Folding, sounds, errors and the conditions by name: each sentence of the document at its edges. */
public final class WordsEdgesTest {
  private WordsEdgesTest() {
  }

  public static void main(String[] args) {
    pairs();
    sameLetters();
    pairsBeforeSameLetters();
    lettersThatStay();
    notLookedAtAgain();
    oneAlone();
    soundOfTheFirstLetter();
    soundClasses();
    classOfTheLetterBefore();
    atMostFourSigns();
    fiveBits();
    putInLeftOutExchanged();
    neighboursChangePlaces();
    eachLetterAtMostOnce();
    bothFolded();
    sameWord();
    beginning();
    mostErrors();
    sameSound();
    namesOfThisDay();
    Check.end();
  }

  private static int errors(String one, String other) {
    return new Run().places(0).name(0, one, 0, 0).typed(other).play().errors(0, 0);
  }

  private static void errorsAre(String what, int want, String one, String other) {
    Check.due(what + one + " and " + other, want, () -> errors(one, other));
    Check.due(what + other + " and " + one, want, () -> errors(other, one));
  }

  /** The folded word must be one that folds to itself. */
  private static void folds(String what, String word, String folded) {
    Check.due(what + word + " folded is " + folded, 0, () -> errors(word, folded));
    String other = absentFrom(folded);
    Check.due(what + word + " folded has its length", folded.length(), () -> errors(word, other));
  }

  private static String absentFrom(String word) {
    char c = 'a';
    while (word.indexOf(c) >= 0) {
      c++;
    }
    return String.valueOf(c);
  }

  /** The folded word is first and second, which would join if they were typed so. */
  private static void foldsApart(String what, String word, char first, char second) {
    Check.due(what + word + " has two letters", 2, () -> errors(word, "z"));
    Check.due(what + word + " has a " + first, 1, () -> errors(word, String.valueOf(first)));
    Check.due(what + word + " has a " + second, 1, () -> errors(word, String.valueOf(second)));
    Check.due(what + word + " has them in this order", 1, () -> errors(word, "" + second + first));
  }

  private static void soundIs(String what, String word, int... signs) {
    int code = 0;
    for (int sign : signs) {
      code = code * 32 + sign;
    }
    new Run().typed(word).due(what + word, code, PlaceFinder::sound);
  }

  private static void pairs() {
    String what = "ph becomes f, ck and qu become k, th becomes t: ";
    folds(what, "ph", "f");
    folds(what, "ck", "k");
    folds(what, "qu", "k");
    folds(what, "th", "t");
    folds(what + "at the beginning, ", "pha", "fa");
    folds(what + "at the end, ", "aph", "af");
    folds(what + "inside, ", "acka", "aka");
    folds(what + "all four, ", "phackquith", "fakit");
    folds(what + "side by side, ", "phckth", "fkt");
    folds(what + "five of them, ", "phckphckph", "fkfkf");
    folds(what + "half of it at the end, ", "apacaqat", "apacaqat");
    folds(what + "the other way round, ", "hpkcuqht", "hpkcuqht");
    folds(what + "with a letter between, ", "paqatacah", "paqatacah");
    folds(what + "others with h, k or u, ", "chshgh", "chshgh");
    folds(what + "crossed, ", "qkcuphtu", "qkcuftu");
  }

  private static void sameLetters() {
    String what = "two or more of the same letter become one: ";
    folds(what + "two, ", "aa", "a");
    folds(what + "three, ", "aaa", "a");
    folds(what + "ten, ", "aaaaaaaaaa", "a");
    folds(what + "runs, ", "aabbbcccc", "abc");
    folds(what + "at the end, ", "abb", "ab");
    folds(what + "not apart, ", "aba", "aba");
    for (char c = 'b'; c <= 'z'; c++) {
      String letter = String.valueOf(c);
      folds(what + "each letter, ", letter + letter + "a" + letter + letter, letter + "a" + letter);
    }
    folds(what + "each letter, ", "aabaa", "aba");
  }

  private static void pairsBeforeSameLetters() {
    String what = "from left to right, at each place the first that fits: ";
    folds(what, "phh", "fh");
    folds(what, "phhh", "fh");
    folds(what, "quu", "ku");
    folds(what, "ckkk", "k");
    foldsApart(what, "thh", 't', 'h');
    foldsApart(what, "tth", 't', 'h');
    foldsApart(what, "pph", 'p', 'h');
    foldsApart(what, "ppph", 'p', 'h');
    foldsApart(what, "pphh", 'p', 'h');
    foldsApart(what, "cck", 'c', 'k');
    foldsApart(what, "cckk", 'c', 'k');
    foldsApart(what, "qqu", 'q', 'u');
    foldsApart(what, "qquuuuuuuu", 'q', 'u');
    folds(what, "hhph", "hf");
    folds(what, "kkck", "k");
    folds(what, "aphph", "af");
  }

  private static void lettersThatStay() {
    String what = "another letter stays: ";
    folds(what, "a", "a");
    folds(what, "p", "p");
    folds(what, "h", "h");
    folds(what, "abcdefgabc", "abcdefgabc");
    folds(what, "hijklmnopr", "hijklmnopr");
    folds(what, "rstuvwxya", "rstuvwxya");
    folds(what, "qaqbqc", "qaqbqc");
  }

  private static void notLookedAtAgain() {
    String what = "A letter that comes of two is not looked at again: ";
    folds(what + "the k of ck and an h, ", "ckh", "kh");
    folds(what + "the t of th and no h, ", "tha", "ta");
    foldsApart(what + "the t of th and an h, ", "thh", 't', 'h');
    foldsApart(what + "the p of pp and an h, ", "pph", 'p', 'h');
    foldsApart(what + "the c of cc and the k of qu, ", "ccqu", 'c', 'k');
    foldsApart(what + "a c and the k of qu, ", "cqu", 'c', 'k');
    foldsApart(what + "a c and the k of ck, ", "cck", 'c', 'k');
    soundIs(what + "the sound of ", "pph", 16);
    soundIs(what + "the sound of ", "ph", 6);
    soundIs(what + "the sound of ", "qqu", 17);
    soundIs(what + "the sound of ", "qu", 11);
  }

  private static void oneAlone() {
    String what = "of letters of the folded word that are the same, one beside the other, there is one alone: ";
    folds(what, "phf", "f");
    folds(what, "fph", "f");
    folds(what, "ffph", "f");
    folds(what, "phff", "f");
    folds(what, "phph", "f");
    folds(what, "phphphphph", "f");
    folds(what, "ckk", "k");
    folds(what, "kck", "k");
    folds(what, "ckqu", "k");
    folds(what, "quck", "k");
    folds(what, "quk", "k");
    folds(what, "kqu", "k");
    folds(what, "tht", "t");
    folds(what, "thth", "t");
    folds(what, "thtt", "t");
    folds(what + "not apart, ", "phaph", "faf");
    folds(what + "not apart, ", "ckaqu", "kak");
    folds(what + "others stay, ", "aphfa", "afa");
  }

  private static void soundOfTheFirstLetter() {
    String what = "SOUND: of the folded word the first letter: ";
    for (char c = 'a'; c <= 'z'; c++) {
      soundIs(what, String.valueOf(c), c - 'a' + 1);
      soundIs(what + "two of it, ", "" + c + c, c - 'a' + 1);
    }
    soundIs(what, "ph", 6);
    soundIs(what, "ck", 11);
    soundIs(what, "qu", 11);
    soundIs(what, "th", 20);
    soundIs(what, "pha", 6);
  }

  private static void soundClasses() {
    String what = "of each next one its class: ";
    String[] classes = {"aehiouwy", "bfpv", "cgjkqsxz", "dt", "l", "mn", "r"};
    for (int i = 0; i < classes.length; i++) {
      for (char c : classes[i].toCharArray()) {
        if (i == 0) {
          soundIs(what + "not 0, ", "o" + c, 15);
          soundIs(what + "not 0, ", "lo" + c + "a", 12);
        } else {
          soundIs(what, "a" + c, 1, i);
          soundIs(what, "a" + c + "o" + c, 1, i, i);
        }
      }
    }
  }

  private static void classOfTheLetterBefore() {
    String what = "not that of the letter just before: ";
    soundIs(what + "the first letter, ", "bf", 2);
    soundIs(what + "the first letter, ", "bfpv", 2);
    soundIs(what + "another one between, ", "baf", 2, 1);
    soundIs(what + "h is one as well, ", "bhf", 2, 1);
    soundIs(what, "abf", 1, 1);
    soundIs(what, "abfa", 1, 1);
    soundIs(what, "abaf", 1, 1, 1);
    soundIs(what, "abdf", 1, 1, 3, 1);
    soundIs(what, "adtd", 1, 3);
    soundIs(what, "amnr", 1, 5, 6);
    soundIs(what, "lal", 12, 4);
    soundIs(what + "of the folded word, ", "sck", 19);
    soundIs(what + "of the folded word, ", "saqus", 19, 2);
    soundIs(what + "of the folded word, ", "doth", 4, 3);
    soundIs(what + "of the folded word, ", "dth", 4);
  }

  private static void atMostFourSigns() {
    String what = "at most 4 signs in all: ";
    soundIs(what + "1, ", "a", 1);
    soundIs(what + "2, ", "ab", 1, 1);
    soundIs(what + "3, ", "abc", 1, 1, 2);
    soundIs(what + "4, ", "abcd", 1, 1, 2, 3);
    soundIs(what + "5 would be, ", "abcdl", 1, 1, 2, 3);
    soundIs(what + "10 would be, ", "abcdlmrbcd", 1, 1, 2, 3);
    soundIs(what + "4 at the very end, ", "aebeieceid", 1, 1, 2, 3);
    soundIs(what + "4 and letters without a class, ", "abcdea", 1, 1, 2, 3);
  }

  private static void fiveBits() {
    String what = "five bits for each sign, the first in the highest that are used: ";
    new Run().due(what + "0 if nothing is typed", 0, PlaceFinder::sound);
    new Run().typed("a").due(what + "1", 1, PlaceFinder::sound);
    new Run().typed("z").due(what + "26", 26, PlaceFinder::sound);
    new Run().typed("zr").due(what + "26, 6", 26 * 32 + 6, PlaceFinder::sound);
    new Run().typed("zrar").due(what + "26, 6, 6", (26 * 32 + 6) * 32 + 6, PlaceFinder::sound);
    new Run().typed("zrarar").due(what + "26, 6, 6, 6", 858310, PlaceFinder::sound);
    new Run().typed("abab").due(what + "1, 1, 1", 1057, PlaceFinder::sound);
  }

  private static void putInLeftOutExchanged() {
    String what = "ERRORS: the least number of letters put in, left out or exchanged for another one: ";
    errorsAre(what + "none, ", 0, "abc", "abc");
    errorsAre(what + "one at the beginning, ", 1, "abc", "bc");
    errorsAre(what + "one inside, ", 1, "abc", "ac");
    errorsAre(what + "one at the end, ", 1, "abc", "ab");
    errorsAre(what + "exchanged at the beginning, ", 1, "abc", "dbc");
    errorsAre(what + "exchanged inside, ", 1, "abc", "adc");
    errorsAre(what + "exchanged at the end, ", 1, "abc", "abd");
    errorsAre(what + "one letter, ", 1, "a", "b");
    errorsAre(what + "two, ", 2, "abc", "a");
    errorsAre(what + "two, ", 2, "abc", "dbe");
    errorsAre(what + "three, ", 3, "abc", "def");
    errorsAre(what + "three, ", 3, "kiten", "siting");
    errorsAre(what + "put in and left out, ", 2, "abcde", "bcdea");
    errorsAre(what + "one and ten letters, ", 9, "a", "bcdefgbcda");
    errorsAre(what + "one and ten others, ", 10, "z", "bcdefgbcda");
    errorsAre(what + "ten and ten others, ", 10, "abcdeabcde", "vwxyzvwxyz");
    errorsAre(what + "ten and the same ten, ", 0, "abcdeabcde", "abcdeabcde");
    errorsAre(what + "ten and ten but the last, ", 1, "abcdeabcde", "abcdeabcdf");
    errorsAre(what + "ten and nine, ", 1, "abcdeabcde", "abcdeabcd");
  }

  private static void neighboursChangePlaces() {
    String what = "ERRORS: or neighbours that change places: ";
    errorsAre(what, 1, "ab", "ba");
    errorsAre(what + "at the beginning, ", 1, "abcd", "bacd");
    errorsAre(what + "inside, ", 1, "abcd", "acbd");
    errorsAre(what + "at the end, ", 1, "abcd", "abdc");
    errorsAre(what + "twice, ", 2, "abcd", "badc");
    errorsAre(what + "five times, ", 5, "abcdefgiko", "badcfeigok");
    errorsAre(what + "no neighbours, ", 2, "abc", "cba");
    errorsAre(what + "and another error elsewhere, ", 2, "abcd", "bace");
    errorsAre(what + "and one left out elsewhere, ", 2, "abcd", "bac");
  }

  private static void eachLetterAtMostOnce() {
    String what = "ERRORS: each letter at most once, nothing else at them: ";
    errorsAre(what + "nothing put in between, ", 3, "ca", "abc");
    errorsAre(what + "nothing put in between, ", 3, "dcae", "dabce");
    errorsAre(what + "a letter that goes two places on, ", 2, "abc", "bca");
    errorsAre(what + "a letter that goes three places on, ", 2, "abcd", "bcda");
    errorsAre(what + "changed and exchanged, ", 2, "ab", "bc");
  }

  private static void bothFolded() {
    String what = "ERRORS between words, both folded: ";
    errorsAre(what, 0, "philipp", "filip");
    errorsAre(what, 0, "thick", "tik");
    errorsAre(what, 0, "quaack", "kak");
    errorsAre(what, 1, "philipp", "phlip");
    errorsAre(what, 1, "pha", "va");
    errorsAre(what, 1, "aapph", "ap");
    errorsAre(what, 1, "afi", "aiph");
  }

  private static Run named(String... names) {
    Run run = new Run().points(new int[2 * names.length]);
    for (int id = 0; id < names.length; id++) {
      run = run.name(id, names[id], 0, 9);
    }
    return run;
  }

  private static void sameWord() {
    String what = "0 folded it is the folded word that is typed: ";
    Run run = named("filip", "philipp", "filipa", "fili", "filib", "phphilip");
    run.condition(0, 0, "fillip").finds(what + "longer, shorter, other", "[0, 1, 5]", 0, 0);
    run.condition(0, 0, "filipp").finds(what + "spelt otherwise", "[0, 1, 5]", 0, 0);
    run.condition(0, 0, "f").finds(what + "its first letter", "[]", 0, 0);
    Run ten = named("abcdefgabc", "abcdefgabd", "abcdefgab");
    ten.condition(0, 0, "abcdefgabc").finds(what + "ten letters", "[0]", 0, 0);
    ten.condition(0, 0, "abcdefgab").finds(what + "nine letters", "[2]", 0, 0);
    named("a", "b", "aa").condition(0, 0, "a").finds(what + "one letter", "[0, 2]", 0, 0);
  }

  private static void beginning() {
    String what = "1 it begins with that: ";
    Run run = named("abc", "ab", "a", "b", "aab", "cab", "abcdefgabc");
    run.condition(1, 0, "a").finds(what + "one letter", "[0, 1, 2, 4, 6]", 0, 0);
    run.condition(1, 0, "ab").finds(what + "two letters", "[0, 1, 4, 6]", 0, 0);
    run.condition(1, 0, "abc").finds(what + "as long as the name", "[0, 6]", 0, 0);
    run.condition(1, 0, "abcd").finds(what + "one longer than the name", "[6]", 0, 0);
    run.condition(1, 0, "abcdefgabc").finds(what + "ten letters", "[6]", 0, 0);
    run.condition(1, 0, "abcdefgabd").finds(what + "ten, the last one other", "[]", 0, 0);
    named("phoo", "fo", "po").condition(1, 0, "ph").finds(what + "folded", "[0, 1]", 0, 0);
    named("phoo", "fo", "po").condition(1, 0, "p").finds(what + "the half of ph is no beginning", "[2]", 0, 0);
  }

  private static void mostErrors() {
    String what = "2 with at most a (0, 1, 2) errors: ";
    Run run = named("abcd", "abce", "abef", "aefg", "badc", "bacd", "abc", "ab", "a", "abcdef", "abcdefg");
    run.condition(2, 0, "abcd").finds(what + "0", "[0]", 0, 0);
    run.condition(2, 1, "abcd").finds(what + "1", "[0, 1, 5, 6]", 0, 0);
    run.condition(2, 2, "abcd").finds(what + "2", "[0, 1, 2, 4, 5, 6, 7, 9]", 0, 0);
    Run one = named("a", "b", "cd", "cde");
    one.condition(2, 1, "a").finds(what + "1 of one letter", "[0, 1]", 0, 0);
    one.condition(2, 2, "a").finds(what + "2 of one letter", "[0, 1, 2]", 0, 0);
    Run folded = named("philipp", "vilip", "pilipp");
    folded.condition(2, 0, "filip").finds(what + "0, folded", "[0]", 0, 0);
    folded.condition(2, 1, "phillip").finds(what + "1, folded", "[0, 1, 2]", 0, 0);
  }

  private static void sameSound() {
    String what = "3 its sound is that of the word: ";
    Run run = named("robert", "rupert", "rubin", "probert", "roberta", "roberts", "rob");
    run.condition(3, 0, "ropert").finds(what + "the first four signs", "[0, 1, 4, 5]", 0, 0);
    run.condition(3, 0, "rubn").finds(what + "three signs", "[2]", 0, 0);
    run.condition(3, 0, "rf").finds(what + "two signs", "[6]", 0, 0);
    run.condition(3, 0, "r").finds(what + "one sign", "[]", 0, 0);
    named("a", "e", "ae", "aha").condition(3, 0, "ao").finds(what + "no class", "[0, 2, 3]", 0, 0);
    named("phil", "fil", "pil").condition(3, 0, "fall").finds(what + "folded", "[0, 1]", 0, 0);
  }

  private static void namesOfThisDay() {
    String what = "By name one holds if one of its names of this day is so: ";
    Run run = new Run().points(1, 1, 2, 2, 3, 3)
        .name(0, "ab", 5, 9).name(0, "cd", 0, 9999).name(1, "cd", 0, 9999).name(1, "ab", 0, 5);
    for (int kind = 0; kind <= 3; kind++) {
      Run asked = run.condition(kind, 0, "ab");
      asked.finds(what + kind + " before the first", "[1]", 4, 0);
      asked.finds(what + kind + " on a day of both", "[0, 1]", 5, 0);
      asked.finds(what + kind + " after the second", "[0]", 6, 0);
      asked.finds(what + kind + " on the last day", "[0]", 9, 0);
      asked.finds(what + kind + " behind it", "[]", 10, 0);
    }
  }
}
