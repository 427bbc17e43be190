/** The program and the plain model, on which the same calls are made. */
final class Pair {
    final RootChunks program = new RootChunks();
    final PlainModel model = new PlainModel();
    private final Check check;

    Pair(Check check) {
        this.check = check;
    }

    /** Compares all that can be asked without an argument of its own. */
    void compareAll(String behind) {
        for (int what = 0; what <= 8; what++) {
            check.due(behind + "count " + what, program.count(what), model.count(what));
        }
        for (int chunk = 0; chunk < model.count(1); chunk++) {
            for (int what = 0; what <= 4; what++) {
                check.due(behind + "chunk " + chunk + " " + what, program.chunk(chunk, what), model.chunk(chunk, what));
            }
        }
        for (int place = 0; place < model.count(0); place++) {
            check.due(behind + "at " + place, program.at(place), model.at(place));
        }
        check.due(behind + "fault", program.fault(), model.fault());
    }
}
