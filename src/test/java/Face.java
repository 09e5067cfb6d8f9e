/** The methods of the document's face, as the tests call them on a beam and on the model. */
interface Face {
    int lay(int weight, int place);

    int push(int place, boolean inward);

    int play(int depth);

    int setBag(int side, int weight, int many);

    int set(int which, int value);

    int setUp(int weight, int place);

    int begin();

    int type(char character);

    int clearText();

    int perform();

    int stopped(int what);

    int undo();

    int keep();

    int restore();

    int at(int place, int what);

    int bag(int side, int weight);

    int reason(int number, int place);

    int possible(int rank);

    int look(int depth);

    int best(int depth);

    int levels(int weight);

    int made(int back, int what);

    int count(int what);
}
