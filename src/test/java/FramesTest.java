/** The sentences of "Frames", and of the promises 9 and 23 to 26, that name an edge, each with a test of its own. */
public final class FramesTest extends Checks {
  private static final int[] EIGHT = {0, 4, 8, 12, 16, 20, 24, 28};

  public static void main(String[] args) {
    sentence("A host has 16 frames", FramesTest::sixteen);
    sentence("or swapped, with its words kept", FramesTest::swappedWords);
    sentence("or bare, that is, it is all 0, and has no frame, at first", FramesTest::bareAtFirst);
    sentence("When an instruction reads or writes a word of a page that has no frame, it gets one", FramesTest::readsOrWrites);
    sentence("the lowest free one", FramesTest::lowestFree);
    sentence("if there is none, first the frame that was used longest ago (of several the lowest) is emptied", FramesTest::longestAgo);
    sentence("all pages that it holds are swapped", FramesTest::allAreSwapped);
    sentence("To write a word of a page whose frame is shared, it gets a frame of its own likewise", FramesTest::copied);
    sentence("but that frame is not emptied for it", FramesTest::copiedWithoutFreeFrames);
    sentence("Each is an exit: GIVEN for a bare page, BROUGHT for a swapped one, COPIED.", FramesTest::exitsOfPages);
    sentence("OUT and IN are exits, too, TOLD; WAIT and STOP are RESTS; letting an interrupt in is LET.", FramesTest::otherExits);
    sentence("A frame is used at the tick in which an instruction reads or writes it, or it was got", FramesTest::used);
    sentence("one that is copied is not used by that", FramesTest::copiedIsNotUsed);
    sentence("for each frame by rising numbers, all higher ones with the same words are merged into it: their pages are held by it", FramesTest::merged);
    sentence("with the same words", FramesTest::sameWords);
    sentence("and it was used when the later one of both was", FramesTest::usedWhenTheLater);
    sentence("frames of sealed guests are left aside", FramesTest::sealedAside);
    sentence("A bare page stays bare.", FramesTest::bareStaysBare);
    sentence("A frame whose last page leaves it is free.", FramesTest::lastPageLeaves);
    sentence("A page that is given back is bare.", FramesTest::givenBack);
    sentence("Returns how many frames become free by that.", FramesTest::freed);
    sentence("Returns BARE, HELD or SWAPPED.", FramesTest::questions);
    sentence("they are never taken back", FramesTest::exitsStay);
    report();
  }

  /** Two workers on host 0 with all of their pages in the frames 0 to 7 and 8 to 15, used in that order. */
  private static Hall full() {
    Hall x = new Hall();
    worker(x);
    worker(x);
    for (int page = 0; page < 8; page++) write(x, 0, 10 + page, 4 * page);
    for (int page = 0; page < 8; page++) write(x, 1, 20 + page, 4 * page);
    return x;
  }

  static void sixteen() {
    Hall x = new Hall();
    make(x, putAll(1, 8));
    make(x, putAll(2, 8));
    make(x, putAll(3, 1));
    make(x, 1, 1, false, putAll(4, 1));
    for (int guest = 0; guest < 4; guest++) x.pause(guest, true);
    for (int guest = 0; guest < 2; guest++) {
      x.pause(guest, false);
      x.tick(1);
      for (int page = 0; page < 8; page++) {
        due(8 * guest + page, x.used(0), "used");
        x.tick(2);
        due(8 * guest + page, x.frameOf(guest, page), "the frame");
      }
      x.pause(guest, true);
    }
    due(16, x.used(0), "all of them");
    for (int guest = 0; guest < 2; guest++) pages(x, guest, "HHHHHHHH", "with all frames");
    x.pause(2, false);
    x.tick(3);
    due(16, x.used(0), "no more than all");
    due(0, x.frameOf(2, 0), "the frame that was emptied");
    due(0, x.used(1), "of the other host");
    x.pause(3, false);
    x.tick(3);
    due(1, x.used(1), "the other host has frames of its own");
    due(0, x.frameOf(3, 0), "the first of them");
    refusedAll(x, BOUNDS, host -> () -> x.used(host), "used", outside(0, 1));
  }

  static void swappedWords() {
    Hall x = full();
    write(x, 0, 99, 3);
    write(x, 0, 98, 1);
    worker(x);
    for (int i = 0; i < 8; i++) write(x, 2, 30 + i, EIGHT[i]);
    for (int page = 1; page < 8; page++) {
      due(SWAPPED, x.pageOf(0, page), "the page " + page);
      due(-1, x.frameOf(0, page), "its frame");
      due(10 + page, x.word(0, page, 0), "its word");
    }
    worker(x);
    for (int i = 0; i < 8; i++) write(x, 3, 40 + i, EIGHT[i]);
    due(SWAPPED, x.pageOf(0, 0), "the page 0");
    int[] words = {10, 98, 0, 99};
    for (int place = 0; place < 4; place++) due(words[place], x.word(0, 0, place), "its word " + place);
    for (int place = 0; place < 4; place++) {
      read(x, 0, place);
      due(words[place], x.register(0, 0), "what is read of it");
    }
    due(1, x.exits(0, BROUGHT), "BROUGHT");
    write(x, 0, 97, 4);
    due(97, x.word(0, 1, 0), "a word of a swapped page that is written");
    due(2, x.exits(0, BROUGHT), "BROUGHT");
  }

  static void bareAtFirst() {
    Hall x = new Hall();
    make(x, STOP, 0, 0);
    make(x, 0, 1, true, STOP, 0, 0);
    make(x, 1, 1, false);
    x.tick(5);
    for (int guest = 0; guest < 3; guest++) {
      pages(x, guest, "BBBBBBBB", "at first");
      frames(x, guest, "at first", -1, -1, -1, -1, -1, -1, -1, -1);
    }
    due(0, x.used(0) + x.used(1), "used");
  }

  static void readsOrWrites() {
    Hall x = new Hall();
    worker(x);
    read(x, 0, 31);
    pages(x, 0, "BBBBBBBH", "where one is read");
    frames(x, 0, "where one is read", -1, -1, -1, -1, -1, -1, -1, 0);
    write(x, 0, 0, 0);
    pages(x, 0, "HBBBBBBH", "where 0 is put to one");
    read(x, 0, 28, 29, 1);
    write(x, 0, 5, 30, 2);
    due(2, x.used(0), "they have frames already");
    exits(x, 0, 2, 0, 0);
    // A page is got by its number, not by the view that shows it; a fault gets none.
    Hall y = new Hall();
    make(y, MAP, 0, 6, LOAD, 1, 1, MAP, 0, 8, LOAD, 1, 1);
    y.tick(4);
    pages(y, 0, "BBBBBBHB", "by the view 0");
    due(DEAD, y.of(0, HOW), "by no view");
    exits(y, 0, 1, 0, 0);
  }

  static void lowestFree() {
    Hall x = new Hall();
    int[] given = {3, 0, 7};
    for (int page : given) worker(x, 0, false, page);
    write(x, 0, 1, 0, 4, 8, 12);
    write(x, 1, 2, 0, 4);
    frames(x, 0, "at first", 0, 1, 2, 3);
    frames(x, 1, "at first", 4, 5);
    giveBack(x, 0);
    giveBack(x, 1);
    due(4, x.used(0), "used");
    write(x, 2, 3, 0, 4, 8);
    frames(x, 2, "the lowest ones", 3, 4, 6);
    write(x, 1, 2, 8);
    due(7, x.frameOf(1, 2), "the next one");
    // The last free one of all: the highest.
    Hall y = full();
    worker(y, 0, false, 0);
    y.move(1);
    y.land(1, true);
    write(y, 2, 3, EIGHT);
    frames(y, 2, "where another left", 8, 9, 10, 11, 12, 13, 14, 15);
    pages(y, 0, "HHHHHHHH", "where another left");
    giveBack(y, 2);
    write(y, 2, 3, 0);
    due(8, y.frameOf(2, 0), "the one that is free");
  }

  static void longestAgo() {
    Hall x = full();
    worker(x);
    // Read and written since: the pages 0 and 2 of the first, so that its pages 1 and 3 were used longest ago.
    read(x, 0, 0);
    write(x, 0, 5, 9);
    write(x, 2, 7, 0);
    pages(x, 0, "HSHHHHHH", "behind the first");
    due(1, x.frameOf(2, 0), "the frame 1");
    write(x, 2, 7, 4);
    pages(x, 0, "HSHSHHHH", "behind the second");
    due(3, x.frameOf(2, 1), "the frame 3");
    read(x, 0, 4);
    pages(x, 0, "HHHSSHHH", "when one is brought");
    due(4, x.frameOf(0, 1), "its frame");
    write(x, 2, 7, 8, 12, 16);
    pages(x, 0, "HHHSSSSS", "when its older ones are gone");
    pages(x, 1, "HHHHHHHH", "which were used later");
    write(x, 2, 7, 20);
    pages(x, 1, "SHHHHHHH", "then the oldest of the other");
    due(8, x.frameOf(2, 5), "the frame 8");
    write(x, 2, 7, 24, 28);
    pages(x, 1, "SSSHHHHH", "and the next ones");
    pages(x, 0, "HHHSSSSS", "those that were used since stay");
    due(16, x.used(0), "used");
    // What was got of late is not emptied, though its number is low.
    read(x, 0, 12);
    pages(x, 2, "HHHHHHHH", "of the third");
    pages(x, 1, "SSSSHHHH", "of the second");
  }

  static void allAreSwapped() {
    Hall x = new Hall();
    for (int guest = 0; guest < 4; guest++) worker(x);
    write(x, 0, 5, 0, 4);
    write(x, 1, 5, 12);
    due(2, x.share(0), "share");
    write(x, 2, 1, EIGHT);
    write(x, 3, 2, 0, 4, 8, 12, 16, 20, 24);
    due(16, x.used(0), "used");
    pages(x, 0, "HHBBBBBB", "ahead of it");
    write(x, 3, 2, 28);
    pages(x, 0, "SSBBBBBB", "two pages of one");
    pages(x, 1, "BBBSBBBB", "and one of another");
    due(16, x.used(0), "used");
    due(0, x.frameOf(3, 7), "the frame that was emptied");
    // Each comes back into a frame of its own, and keeps its words.
    read(x, 0, 0, 4);
    read(x, 1, 12);
    due(5, x.register(0, 0), "what is read");
    due(5, x.register(1, 0), "what is read");
    frames(x, 0, "brought back", 1, 2);
    due(3, x.frameOf(1, 3), "brought back");
    exits(x, 0, 2, 2, 0);
    exits(x, 1, 1, 1, 0);
    write(x, 0, 6, 0);
    exits(x, 0, 2, 2, 0);
    due(5, x.word(0, 1, 0), "they are shared no more");
    pages(x, 2, "SSSHHHHH", "whose frames were emptied");
  }

  static void copied() {
    Hall x = new Hall();
    for (int guest = 0; guest < 3; guest++) worker(x);
    for (int guest = 0; guest < 3; guest++) write(x, guest, 5, 0);
    due(2, x.share(0), "share");
    for (int guest = 0; guest < 3; guest++) due(0, x.frameOf(guest, 0), "shared");
    read(x, 1, 0);
    due(0, x.frameOf(1, 0), "read, not written");
    exits(x, 1, 1, 0, 0);
    write(x, 1, 6, 1);
    due(1, x.frameOf(1, 0), "the lowest free one");
    exits(x, 1, 1, 0, 1);
    due(5, x.word(1, 0, 0), "the words come along");
    due(6, x.word(1, 0, 1), "but the one that is written");
    for (int guest : new int[] {0, 2}) {
      due(0, x.frameOf(guest, 0), "the others stay");
      due(0, x.word(guest, 0, 1), "with their words");
    }
    // The same number once more is a write, too; the last one that stays has the frame for itself.
    write(x, 0, 5, 0);
    due(2, x.frameOf(0, 0), "the lowest free one");
    exits(x, 0, 1, 0, 1);
    write(x, 2, 9, 0);
    due(0, x.frameOf(2, 0), "the last one");
    exits(x, 2, 1, 0, 0);
    write(x, 1, 7, 0);
    write(x, 0, 7, 0);
    exits(x, 0, 1, 0, 1);
    exits(x, 1, 1, 0, 1);
    due(3, x.used(0), "used");
    // Two pages of the same guest.
    Hall y = new Hall();
    worker(y);
    write(y, 0, 5, 0, 4);
    y.share(0);
    frames(y, 0, "shared", 0, 0);
    write(y, 0, 6, 0);
    frames(y, 0, "copied", 1, 0);
    due(5, y.word(0, 1, 0), "the other page");
    write(y, 0, 6, 4);
    exits(y, 0, 2, 0, 1);
  }

  /** All frames are held; the pages 0 of both workers share the frame 0, which was used as long ago as it is said. */
  private static Hall fullAndShared(boolean isOldest) {
    Hall x = new Hall();
    for (int guest = 0; guest < 3; guest++) worker(x);
    write(x, 0, 5, 0);
    write(x, 1, 5, 0);
    due(1, x.share(0), "share");
    for (int page = 1; page < 8; page++) write(x, 0, 10 + page, 4 * page);
    for (int page = 1; page < 8; page++) write(x, 1, 20 + page, 4 * page);
    write(x, 2, 30, 0);
    if (!isOldest) read(x, 1, 0);
    due(16, x.used(0), "used");
    frames(x, 0, "ahead of it", 0, 1, 2, 3, 4, 5, 6, 7);
    frames(x, 1, "ahead of it", 0, 8, 9, 10, 11, 12, 13, 14);
    return x;
  }

  static void copiedWithoutFreeFrames() {
    for (boolean isOldest : new boolean[] {true, false}) {
      Hall x = fullAndShared(isOldest);
      write(x, 0, 6, 0);
      frames(x, 0, "copied", 1, -1, 2, 3, 4, 5, 6, 7);
      pages(x, 0, "HSHHHHHH", "copied");
      due(0, x.frameOf(1, 0), "the frame that was shared");
      due(5, x.word(1, 0, 0), "its word");
      due(6, x.word(0, 0, 0), "the word that is written");
      exits(x, 0, 8, 0, 1);
      due(16, x.used(0), "used");
      // Without being shared it is emptied like any other.
      write(x, 2, 31, 4);
      due(isOldest ? SWAPPED : HELD, x.pageOf(1, 0), "the frame that was shared, for another page");
      due(isOldest ? 0 : 2, x.frameOf(2, 1), "the frame that is emptied");
    }
    // The frame 0 was used longest ago but one, and the shared one, which is the frame 1, longest ago.
    Hall y = new Hall();
    for (int guest = 0; guest < 3; guest++) worker(y);
    write(y, 0, 1, 28);
    write(y, 0, 5, 0, 4);
    y.share(0);
    due(1, y.frameOf(0, 1), "shared");
    read(y, 0, 28);
    write(y, 1, 2, EIGHT);
    write(y, 2, 3, 0, 4, 8, 12, 16, 20);
    due(16, y.used(0), "used");
    write(y, 0, 6, 4);
    frames(y, 0, "copied", 1, 0);
    due(SWAPPED, y.pageOf(0, 7), "the page in the frame 0");
    // The frame that is emptied can be one that others share.
    Hall z = new Hall();
    for (int guest = 0; guest < 3; guest++) worker(z);
    write(z, 0, 5, 0, 4);
    write(z, 0, 6, 8, 12);
    due(2, z.share(0), "share");
    frames(z, 0, "shared", 0, 0, 2, 2);
    write(z, 1, 2, EIGHT);
    write(z, 2, 3, 0, 4, 8, 12, 16, 20);
    due(16, z.used(0), "used");
    write(z, 0, 7, 4);
    pages(z, 0, "HHSSBBBB", "copied");
    frames(z, 0, "copied", 0, 2, -1, -1);
  }

  static void exitsOfPages() {
    Hall x = new Hall();
    for (int guest = 0; guest < 3; guest++) worker(x);
    read(x, 0, 0);
    exits(x, 0, 1, 0, 0);
    write(x, 0, 5, 4);
    exits(x, 0, 2, 0, 0);
    read(x, 0, 0, 4);
    write(x, 0, 5, 4);
    exits(x, 0, 2, 0, 0);
    giveBack(x, 0);
    write(x, 0, 0, 0);
    exits(x, 0, 3, 0, 0);
    // A page that was only read is swapped with words of 0: it is brought, not given.
    read(x, 0, 8);
    write(x, 1, 1, EIGHT);
    write(x, 2, 1, EIGHT);
    pages(x, 0, "SSSBBBBB", "swapped");
    exits(x, 0, 4, 0, 0);
    read(x, 0, 8);
    exits(x, 0, 4, 1, 0);
    write(x, 0, 0, 0);
    exits(x, 0, 4, 2, 0);
    // One that was swapped and given back is bare: it is given.
    write(x, 1, 1, EIGHT);
    write(x, 2, 1, EIGHT);
    pages(x, 0, "SSSBBBBB", "swapped once more");
    giveBack(x, 0);
    read(x, 0, 0);
    exits(x, 0, 5, 2, 0);
    exits(x, 1, 8, 8, 0);
    for (int kind : new int[] {RESTS, LET}) due(0, x.exits(0, kind), "other exits");
  }

  static void otherExits() {
    Hall x = new Hall();
    make(x, HANDLE, 0, 10, OUT, 0, 0, OUT, 0, 1, IN, 0, 0, IN, 0, 1, IN, 0, 2, WAIT, 0, 0, WAIT, 0, 0, WAIT, 0, 0, STOP, 0, 0, BACK, 0, 0);
    int[] told = {0, 1, 2, 3, 4, 5, 5}, rests = {0, 0, 0, 0, 0, 0, 1};
    for (int i = 0; i < told.length; i++) {
      x.tick(1);
      due(told[i], x.exits(0, TOLD), "TOLD behind the instruction " + i);
      due(rests[i], x.exits(0, RESTS), "RESTS behind the instruction " + i);
      due(0, x.exits(0, LET), "LET behind the instruction " + i);
    }
    x.send(0);
    x.tick(1);
    due(1, x.exits(0, LET), "LET");
    x.tick(1);
    due(2, x.exits(0, RESTS), "RESTS");
    x.send(0);
    x.tick(4);
    due(2, x.exits(0, LET), "LET");
    x.send(0);
    x.tick(4);
    due(STOPPED, x.of(0, HOW), "how");
    due(4, x.exits(0, RESTS), "RESTS with STOP");
    due(5, x.exits(0, TOLD), "TOLD");
    exits(x, 0, 0, 0, 0);
    refusedAll(x, ARGUMENT, kind -> () -> x.exits(0, kind), "exits", outside(0, 5));
    refusedAll(x, BOUNDS, guest -> () -> x.exits(guest, 9), "exits of no guest, and of no kind", outside(0, 0));
  }

  static void used() {
    // Each way to use the oldest frame spares it: reading, writing. To have got it is the first use.
    for (int way = 0; way < 3; way++) {
      Hall x = full();
      worker(x);
      if (way == 0) read(x, 0, 2);
      if (way == 1) write(x, 0, 5, 3);
      write(x, 2, 7, 0);
      pages(x, 0, way == 2 ? "SHHHHHHH" : "HSHHHHHH", "used in the way " + way);
    }
    // Any of those that share it uses it; to give back, to snapshot, to ask or to share does not.
    Hall x = fullAndShared(true);
    read(x, 1, 0);
    write(x, 2, 7, 4);
    pages(x, 0, "HSHHHHHH", "used by another that shares it");
    Hall y = fullAndShared(true);
    y.snapshot(0);
    y.word(0, 0, 0);
    y.share(0);
    y.move(0);
    y.round(0, 8);
    write(y, 2, 7, 4);
    pages(y, 0, "SHHHHHHH", "that was not used");
    pages(y, 1, "SHHHHHHH", "that was not used");
    Hall z = new Hall();
    for (int guest = 0; guest < 3; guest++) worker(z, 0, false, 1);
    write(z, 0, 5, 0, 4);
    z.share(0);
    write(z, 1, 2, EIGHT);
    write(z, 2, 3, 0, 4, 8, 12, 16, 20, 24);
    giveBack(z, 0);
    due(16, z.used(0), "used");
    write(z, 2, 3, 28);
    pages(z, 0, "SBBBBBBB", "whose other page left its frame");
  }

  static void copiedIsNotUsed() {
    Hall x = fullAndShared(true);
    write(x, 0, 6, 0);
    write(x, 2, 7, 4);
    pages(x, 1, "SHHHHHHH", "of which a copy was made");
    // The copy is used by that.
    due(1, x.frameOf(0, 0), "the copy");
    write(x, 2, 7, 8, 12, 16);
    pages(x, 0, "HSSSSHHH", "the copy stays");
  }

  static void merged() {
    Hall x = new Hall();
    for (int guest = 0; guest < 3; guest++) worker(x);
    // Alike are the frames 0, 2 and 5; 1, 3 and 7; 4 and 8; the frame 6 is like none.
    int[] numbers = {1, 2, 1, 2, 3, 1, 4, 2, 3};
    for (int i = 0; i < 9; i++) write(x, i % 3, numbers[i], 4 * (i / 3));
    due(5, x.share(0), "share");
    due(4, x.used(0), "used");
    frames(x, 0, "merged", 0, 1, 6, -1);
    frames(x, 1, "merged", 1, 4, 1, -1);
    frames(x, 2, "merged", 0, 0, 4, -1);
    due(0, x.share(0), "share again");
    for (int i = 0; i < 9; i++) due(numbers[i], x.word(i % 3, i / 3, 0), "the words are what they were");
    // Frames that are shared already are merged, too, and the lower one stays.
    write(x, 0, 3, 4);
    due(2, x.frameOf(0, 1), "a copy");
    due(1, x.share(0), "share");
    frames(x, 0, "merged with a shared one", 0, 2, 6);
    frames(x, 1, "merged with a shared one", 1, 2, 1);
    due(2, x.frameOf(2, 2), "merged with a shared one");
    due(4, x.used(0), "used");
    // All 16 alike; and pages that are swapped are left out.
    Hall y = new Hall();
    for (int guest = 0; guest < 3; guest++) worker(y);
    for (int guest = 0; guest < 3; guest++) write(y, guest, 5, EIGHT);
    due(15, y.share(0), "share");
    due(1, y.used(0), "used");
    pages(y, 0, "SSSSSSSS", "swapped");
    for (int guest = 1; guest < 3; guest++) frames(y, guest, "all in one", 0, 0, 0, 0, 0, 0, 0, 0);
    for (int i = 0; i < 24; i++) due(5, y.word(i / 8, i % 8, 0), "the words are what they were");
    due(0, y.share(1), "share where nothing is");
  }

  static void sameWords() {
    for (int place = 0; place < 4; place++) {
      Hall x = new Hall();
      worker(x);
      worker(x);
      for (int i = 0; i < 4; i++) write(x, 0, 5, i);
      for (int i = 0; i < 4; i++) write(x, 1, i == place ? 6 : 5, 8 + i);
      due(0, x.share(0), "share with another word in the place " + place);
      write(x, 1, 5, 8 + place);
      due(1, x.share(0), "share with the same words");
      due(0, x.frameOf(1, 2), "the frame");
    }
  }

  /** The pages 0 of both are alike, in the frames 0 and 8 of 16; the frame 0 is used once more at last, or is not. */
  private static Hall alike(boolean isLowLater) {
    Hall x = new Hall();
    for (int guest = 0; guest < 4; guest++) worker(x);
    for (int guest = 0; guest < 2; guest++) {
      write(x, guest, 99, 0);
      for (int page = 1; page < 8; page++) write(x, guest, 10 * guest + page, 4 * page);
    }
    if (isLowLater) read(x, 0, 0);
    due(1, x.share(0), "share");
    due(0, x.frameOf(1, 0), "merged");
    return x;
  }

  static void usedWhenTheLater() {
    for (boolean isLowLater : new boolean[] {true, false}) {
      Hall x = alike(isLowLater);
      write(x, 2, 30, EIGHT);
      due(8, x.frameOf(2, 0), "the frame that became free");
      pages(x, 0, "HSSSSSSS", "the others were used longer ago");
      pages(x, 1, "HHHHHHHH", "the others were used longer ago");
      write(x, 3, 40, 0);
      pages(x, 0, isLowLater ? "HSSSSSSS" : "SSSSSSSS", "the later one of both: low " + isLowLater);
      pages(x, 1, isLowLater ? "HSHHHHHH" : "SHHHHHHH", "the later one of both: low " + isLowLater);
    }
  }

  static void sealedAside() {
    Hall x = new Hall();
    worker(x, 0, true, 0);
    worker(x);
    worker(x, 0, true, 0);
    write(x, 0, 5, 0);
    write(x, 1, 5, 0);
    write(x, 2, 5, 0, 4);
    write(x, 1, 5, 4);
    write(x, 0, 5, 4);
    due(1, x.share(0), "share");
    frames(x, 0, "sealed", 0, 5);
    frames(x, 1, "not sealed", 1, 1);
    frames(x, 2, "sealed", 2, 3);
    due(5, x.used(0), "used");
    write(x, 2, 6, 0);
    exits(x, 2, 2, 0, 0);
    due(-1, x.word(2, 0, 0), "nobody reads it");
    due(-1, x.register(2, 3), "nobody reads it");
    // Where only sealed ones are, none is merged.
    Hall y = new Hall();
    worker(y, 0, true, 0);
    write(y, 0, 5, 0, 4, 8);
    due(0, y.share(0), "share");
    frames(y, 0, "sealed", 0, 1, 2);
  }

  static void bareStaysBare() {
    Hall x = new Hall();
    worker(x);
    worker(x);
    read(x, 0, 0, 4);
    write(x, 1, 0, 12);
    due(2, x.share(0), "pages of 0 that have frames");
    pages(x, 0, "HHBBBBBB", "shared");
    pages(x, 1, "BBBHBBBB", "shared");
    frames(x, 0, "shared", 0, 0, -1, -1, -1, -1, -1, -1);
    due(0, x.share(0), "share again");
  }

  static void lastPageLeaves() {
    // By GIVE: the one that stays keeps the frame.
    Hall x = new Hall();
    worker(x);
    worker(x);
    write(x, 0, 5, 0);
    write(x, 1, 5, 0);
    x.share(0);
    giveBack(x, 0);
    due(1, x.used(0), "the other holds it");
    due(0, x.frameOf(1, 0), "the other holds it");
    due(5, x.word(1, 0, 0), "with its word");
    write(x, 1, 6, 0);
    exits(x, 1, 1, 0, 0);
    giveBack(x, 1);
    due(0, x.used(0), "the last one left");
    write(x, 0, 5, 4);
    due(0, x.frameOf(0, 1), "it is free");
    // By a move, by a restored snapshot, and by the failing of the host.
    for (int way = 0; way < 3; way++) {
      Hall y = new Hall();
      worker(y);
      worker(y);
      y.snapshot(1);
      write(y, 0, 5, 0);
      write(y, 1, 5, 0);
      write(y, 1, 6, 4);
      y.share(0);
      due(2, y.used(0), "used");
      if (way == 0) {
        y.move(1);
        y.land(1, true);
      } else if (way == 1) {
        y.restore(1, 0);
      } else {
        y.fail(0);
      }
      due(way == 2 ? 0 : 1, y.used(0), "used in the way " + way);
      due(way == 2 ? BARE : HELD, y.pageOf(0, 0), "the page that shared it");
      if (way < 2) write(y, 0, 7, 0);
      exits(y, 0, 1, 0, 0);
    }
  }

  static void givenBack() {
    Hall x = new Hall();
    for (int page : new int[] {0, 7, 3}) worker(x, 0, false, page);
    write(x, 0, 5, 0);
    giveBack(x, 0);
    pages(x, 0, "BBBBBBBB", "one that was held");
    giveBack(x, 0);
    pages(x, 0, "BBBBBBBB", "one that was bare");
    due(0, x.used(0), "used");
    write(x, 0, 5, 0, 3);
    write(x, 1, 1, EIGHT);
    write(x, 2, 1, EIGHT);
    pages(x, 0, "SBBBBBBB", "swapped");
    giveBack(x, 0);
    pages(x, 0, "BBBBBBBB", "one that was swapped");
    for (int place = 0; place < 4; place++) due(0, x.word(0, 0, place), "its words");
    giveBack(x, 1);
    pages(x, 1, "HHHHHHHB", "the page 7");
    due(15, x.used(0), "used");
  }

  static void freed() {
    Hall x = new Hall();
    due(0, x.share(0), "share without guests");
    worker(x);
    due(0, x.share(0), "share without frames");
    write(x, 0, 5, 0);
    due(0, x.share(0), "share of one frame");
    write(x, 0, 5, 4);
    write(x, 0, 6, 8);
    due(1, x.share(0), "share of three");
    x.fail(0);
    due(0, x.share(0), "share on a host that failed");
    refusedAll(x, BOUNDS, host -> () -> x.share(host), "share", outside(0, 1));
  }

  static void questions() {
    Hall x = new Hall();
    worker(x);
    write(x, 0, 5, 0, 28);
    pages(x, 0, "HBBBBBBH", "held");
    frames(x, 0, "held", 0, -1, -1, -1, -1, -1, -1, 1);
    refusedAll(x, BOUNDS, page -> () -> x.pageOf(0, page), "pageOf", outside(0, 7));
    refusedAll(x, BOUNDS, page -> () -> x.frameOf(0, page), "frameOf", outside(0, 7));
    refusedAll(x, BOUNDS, guest -> () -> x.pageOf(guest, 0), "pageOf of no guest", outside(0, 0));
    refusedAll(x, BOUNDS, guest -> () -> x.frameOf(guest, 0), "frameOf of no guest", outside(0, 0));
    // The frame is one of its host.
    x.move(0);
    x.land(0, true);
    frames(x, 0, "on the other host", -1, -1, -1, -1, -1, -1, -1, -1);
    read(x, 0, 28);
    due(0, x.frameOf(0, 7), "the frame there");
    due(0, x.used(0), "used here");
    due(1, x.used(1), "used there");
  }

  static void exitsStay() {
    Hall x = new Hall();
    worker(x);
    x.snapshot(0);
    write(x, 0, 5, 0, 4);
    x.share(0);
    write(x, 0, 6, 0);
    int told = x.exits(0, TOLD);
    x.restore(0, 0);
    exits(x, 0, 2, 0, 1);
    due(told, x.exits(0, TOLD), "TOLD behind restore");
    x.follow(0, true);
    write(x, 0, 5, 0);
    exits(x, 0, 3, 0, 1);
    x.fail(0);
    exits(x, 0, 3, 0, 1);
    write(x, 0, 5, 0);
    exits(x, 0, 4, 0, 1);
    x.fail(1);
    exits(x, 0, 4, 0, 1);
  }
}
